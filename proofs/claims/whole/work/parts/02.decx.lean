theorem dX0_init_0 : decode cX0_init 0 = .ok (.aload_n 0, 1) := by decide +kernel
theorem dX0_init_1 : decode cX0_init 1 = .ok (.invokespecial 3, 3) := by decide +kernel
theorem dX0_init_4 : decode cX0_init 4 = .ok (.aload_n 0, 1) := by decide +kernel
theorem dX0_init_5 : decode cX0_init 5 = .ok (.bipush 40, 2) := by decide +kernel
theorem dX0_init_7 : decode cX0_init 7 = .ok (.newarray .int, 2) := by decide +kernel
theorem dX0_init_9 : decode cX0_init 9 = .ok (.putfield 9, 3) := by decide +kernel
theorem dX0_init_12 : decode cX0_init 12 = .ok (.aload_n 0, 1) := by decide +kernel
theorem dX0_init_13 : decode cX0_init 13 = .ok (.bipush 40, 2) := by decide +kernel
theorem dX0_init_15 : decode cX0_init 15 = .ok (.newarray .int, 2) := by decide +kernel
theorem dX0_init_17 : decode cX0_init 17 = .ok (.putfield 15, 3) := by decide +kernel
theorem dX0_init_20 : decode cX0_init 20 = .ok (.aload_n 0, 1) := by decide +kernel
theorem dX0_init_21 : decode cX0_init 21 = .ok (.bipush 40, 2) := by decide +kernel
theorem dX0_init_23 : decode cX0_init 23 = .ok (.newarray .int, 2) := by decide +kernel
theorem dX0_init_25 : decode cX0_init 25 = .ok (.putfield 18, 3) := by decide +kernel
theorem dX0_init_28 : decode cX0_init 28 = .ok (.aload_n 0, 1) := by decide +kernel
theorem dX0_init_29 : decode cX0_init 29 = .ok (.aload_n 1, 1) := by decide +kernel
theorem dX0_init_30 : decode cX0_init 30 = .ok (.putfield 21, 3) := by decide +kernel
theorem dX0_init_33 : decode cX0_init 33 = .ok (.aload_n 0, 1) := by decide +kernel
theorem dX0_init_34 : decode cX0_init 34 = .ok (.aload_n 2, 1) := by decide +kernel
theorem dX0_init_35 : decode cX0_init 35 = .ok (.putfield 25, 3) := by decide +kernel
theorem dX0_init_38 : decode cX0_init 38 = .ok (.return_, 1) := by decide +kernel
theorem dX0_readAll_0 : decode cX0_readAll 0 = .ok (.aload_n 0, 1) := by decide +kernel
theorem dX0_readAll_1 : decode cX0_readAll 1 = .ok (.iconst 0, 1) := by decide +kernel
theorem dX0_readAll_2 : decode cX0_readAll 2 = .ok (.putfield 29, 3) := by decide +kernel
theorem dX0_readAll_5 : decode cX0_readAll 5 = .ok (.aload_n 0, 1) := by decide +kernel
theorem dX0_readAll_6 : decode cX0_readAll 6 = .ok (.getfield 21, 3) := by decide +kernel
theorem dX0_readAll_9 : decode cX0_readAll 9 = .ok (.sipush 400, 3) := by decide +kernel
theorem dX0_readAll_12 : decode cX0_readAll 12 = .ok (.invokevirtual 33, 3) := by decide +kernel
theorem dX0_readAll_15 : decode cX0_readAll 15 = .ok (.iconst 0, 1) := by decide +kernel
theorem dX0_readAll_16 : decode cX0_readAll 16 = .ok (.istore_n 1, 1) := by decide +kernel
theorem dX0_readAll_17 : decode cX0_readAll 17 = .ok (.iload_n 1, 1) := by decide +kernel
theorem dX0_readAll_18 : decode cX0_readAll 18 = .ok (.sipush 940, 3) := by decide +kernel
theorem dX0_readAll_21 : decode cX0_readAll 21 = .ok (.if_icmp .ge 38, 3) := by decide +kernel
theorem dX0_readAll_24 : decode cX0_readAll 24 = .ok (.aload_n 0, 1) := by decide +kernel
theorem dX0_readAll_25 : decode cX0_readAll 25 = .ok (.getfield 21, 3) := by decide +kernel
theorem dX0_readAll_28 : decode cX0_readAll 28 = .ok (.invokevirtual 39, 3) := by decide +kernel
theorem dX0_readAll_31 : decode cX0_readAll 31 = .ok (.ifCond .ne 28, 3) := by decide +kernel
theorem dX0_readAll_34 : decode cX0_readAll 34 = .ok (.aload_n 0, 1) := by decide +kernel
theorem dX0_readAll_35 : decode cX0_readAll 35 = .ok (.invokevirtual 43, 3) := by decide +kernel
theorem dX0_readAll_38 : decode cX0_readAll 38 = .ok (.ifCond .eq 13, 3) := by decide +kernel
theorem dX0_readAll_41 : decode cX0_readAll 41 = .ok (.aload_n 0, 1) := by decide +kernel
theorem dX0_readAll_42 : decode cX0_readAll 42 = .ok (.getfield 21, 3) := by decide +kernel
theorem dX0_readAll_45 : decode cX0_readAll 45 = .ok (.invokevirtual 46, 3) := by decide +kernel
theorem dX0_readAll_48 : decode cX0_readAll 48 = .ok (.ifCond .ne 5, 3) := by decide +kernel
theorem dX0_readAll_51 : decode cX0_readAll 51 = .ok (.iconst 0, 1) := by decide +kernel
theorem dX0_readAll_52 : decode cX0_readAll 52 = .ok (.ireturn, 1) := by decide +kernel
theorem dX0_readAll_53 : decode cX0_readAll 53 = .ok (.iinc 1 1, 3) := by decide +kernel
theorem dX0_readAll_56 : decode cX0_readAll 56 = .ok (.goto (-39), 3) := by decide +kernel
theorem dX0_readAll_59 : decode cX0_readAll 59 = .ok (.iconst 1, 1) := by decide +kernel
theorem dX0_readAll_60 : decode cX0_readAll 60 = .ok (.ireturn, 1) := by decide +kernel
theorem dX0_readLine_0 : decode cX0_readLine 0 = .ok (.aload_n 0, 1) := by decide +kernel
theorem dX0_readLine_1 : decode cX0_readLine 1 = .ok (.getfield 21, 3) := by decide +kernel
theorem dX0_readLine_4 : decode cX0_readLine 4 = .ok (.bipush 17, 2) := by decide +kernel
theorem dX0_readLine_6 : decode cX0_readLine 6 = .ok (.invokevirtual 49, 3) := by decide +kernel
theorem dX0_readLine_9 : decode cX0_readLine 9 = .ok (.istore_n 1, 1) := by decide +kernel
theorem dX0_readLine_10 : decode cX0_readLine 10 = .ok (.iload_n 1, 1) := by decide +kernel
theorem dX0_readLine_11 : decode cX0_readLine 11 = .ok (.ifCond .eq 7, 3) := by decide +kernel
theorem dX0_readLine_14 : decode cX0_readLine 14 = .ok (.iconst (-1), 1) := by decide +kernel
theorem dX0_readLine_15 : decode cX0_readLine 15 = .ok (.goto 14, 3) := by decide +kernel
theorem dX0_readLine_18 : decode cX0_readLine 18 = .ok (.aload_n 0, 1) := by decide +kernel
theorem dX0_readLine_19 : decode cX0_readLine 19 = .ok (.getfield 21, 3) := by decide +kernel
theorem dX0_readLine_22 : decode cX0_readLine 22 = .ok (.aload_n 0, 1) := by decide +kernel
theorem dX0_readLine_23 : decode cX0_readLine 23 = .ok (.getfield 25, 3) := by decide +kernel
theorem dX0_readLine_26 : decode cX0_readLine 26 = .ok (.invokevirtual 53, 3) := by decide +kernel
theorem dX0_readLine_29 : decode cX0_readLine 29 = .ok (.istore_n 2, 1) := by decide +kernel
theorem dX0_readLine_30 : decode cX0_readLine 30 = .ok (.iload_n 1, 1) := by decide +kernel
theorem dX0_readLine_31 : decode cX0_readLine 31 = .ok (.ifCond .ne 10, 3) := by decide +kernel
theorem dX0_readLine_34 : decode cX0_readLine 34 = .ok (.iload_n 2, 1) := by decide +kernel
theorem dX0_readLine_35 : decode cX0_readLine 35 = .ok (.iconst (-1), 1) := by decide +kernel
theorem dX0_readLine_36 : decode cX0_readLine 36 = .ok (.if_icmp .ne 5, 3) := by decide +kernel
theorem dX0_readLine_39 : decode cX0_readLine 39 = .ok (.iconst 0, 1) := by decide +kernel
theorem dX0_readLine_40 : decode cX0_readLine 40 = .ok (.ireturn, 1) := by decide +kernel
theorem dX0_readLine_41 : decode cX0_readLine 41 = .ok (.aload_n 0, 1) := by decide +kernel
theorem dX0_readLine_42 : decode cX0_readLine 42 = .ok (.getfield 29, 3) := by decide +kernel
theorem dX0_readLine_45 : decode cX0_readLine 45 = .ok (.bipush 40, 2) := by decide +kernel
theorem dX0_readLine_47 : decode cX0_readLine 47 = .ok (.if_icmp .lt 14, 3) := by decide +kernel
theorem dX0_readLine_50 : decode cX0_readLine 50 = .ok (.aload_n 0, 1) := by decide +kernel
theorem dX0_readLine_51 : decode cX0_readLine 51 = .ok (.getfield 21, 3) := by decide +kernel
theorem dX0_readLine_54 : decode cX0_readLine 54 = .ok (.iconst 4, 1) := by decide +kernel
theorem dX0_readLine_55 : decode cX0_readLine 55 = .ok (.invokevirtual 57, 3) := by decide +kernel
theorem dX0_readLine_58 : decode cX0_readLine 58 = .ok (.pop, 1) := by decide +kernel
theorem dX0_readLine_59 : decode cX0_readLine 59 = .ok (.iconst 0, 1) := by decide +kernel
theorem dX0_readLine_60 : decode cX0_readLine 60 = .ok (.ireturn, 1) := by decide +kernel
theorem dX0_readLine_61 : decode cX0_readLine 61 = .ok (.iload_n 1, 1) := by decide +kernel
theorem dX0_readLine_62 : decode cX0_readLine 62 = .ok (.ifCond .eq 10, 3) := by decide +kernel
theorem dX0_readLine_65 : decode cX0_readLine 65 = .ok (.aload_n 0, 1) := by decide +kernel
theorem dX0_readLine_66 : decode cX0_readLine 66 = .ok (.invokevirtual 61, 3) := by decide +kernel
theorem dX0_readLine_69 : decode cX0_readLine 69 = .ok (.goto 8, 3) := by decide +kernel
theorem dX0_readLine_72 : decode cX0_readLine 72 = .ok (.aload_n 0, 1) := by decide +kernel
theorem dX0_readLine_73 : decode cX0_readLine 73 = .ok (.iload_n 2, 1) := by decide +kernel
theorem dX0_readLine_74 : decode cX0_readLine 74 = .ok (.invokevirtual 64, 3) := by decide +kernel
theorem dX0_readLine_77 : decode cX0_readLine 77 = .ok (.ireturn, 1) := by decide +kernel
theorem dX0_readTicks_0 : decode cX0_readTicks 0 = .ok (.aload_n 0, 1) := by decide +kernel
theorem dX0_readTicks_1 : decode cX0_readTicks 1 = .ok (.getfield 21, 3) := by decide +kernel
theorem dX0_readTicks_4 : decode cX0_readTicks 4 = .ok (.iconst 1, 1) := by decide +kernel
theorem dX0_readTicks_5 : decode cX0_readTicks 5 = .ok (.bipush 60, 2) := by decide +kernel
theorem dX0_readTicks_7 : decode cX0_readTicks 7 = .ok (.invokevirtual 67, 3) := by decide +kernel
theorem dX0_readTicks_10 : decode cX0_readTicks 10 = .ok (.istore_n 1, 1) := by decide +kernel
theorem dX0_readTicks_11 : decode cX0_readTicks 11 = .ok (.aload_n 0, 1) := by decide +kernel
theorem dX0_readTicks_12 : decode cX0_readTicks 12 = .ok (.bipush 17, 2) := by decide +kernel
theorem dX0_readTicks_14 : decode cX0_readTicks 14 = .ok (.iload_n 1, 1) := by decide +kernel
theorem dX0_readTicks_15 : decode cX0_readTicks 15 = .ok (.iconst 0, 1) := by decide +kernel
theorem dX0_readTicks_16 : decode cX0_readTicks 16 = .ok (.invokevirtual 71, 3) := by decide +kernel
theorem dX0_readTicks_19 : decode cX0_readTicks 19 = .ok (.iload_n 1, 1) := by decide +kernel
theorem dX0_readTicks_20 : decode cX0_readTicks 20 = .ok (.iconst (-1), 1) := by decide +kernel
theorem dX0_readTicks_21 : decode cX0_readTicks 21 = .ok (.if_icmp .eq 7, 3) := by decide +kernel
theorem dX0_readTicks_24 : decode cX0_readTicks 24 = .ok (.iconst 1, 1) := by decide +kernel
theorem dX0_readTicks_25 : decode cX0_readTicks 25 = .ok (.goto 4, 3) := by decide +kernel
theorem dX0_readTicks_28 : decode cX0_readTicks 28 = .ok (.iconst 0, 1) := by decide +kernel
theorem dX0_readTicks_29 : decode cX0_readTicks 29 = .ok (.ireturn, 1) := by decide +kernel
theorem dX0_readAct_0 : decode cX0_readAct 0 = .ok (.aload_n 0, 1) := by decide +kernel
theorem dX0_readAct_1 : decode cX0_readAct 1 = .ok (.getfield 21, 3) := by decide +kernel
theorem dX0_readAct_4 : decode cX0_readAct 4 = .ok (.invokevirtual 75, 3) := by decide +kernel
theorem dX0_readAct_7 : decode cX0_readAct 7 = .ok (.aload_n 0, 1) := by decide +kernel
theorem dX0_readAct_8 : decode cX0_readAct 8 = .ok (.getfield 21, 3) := by decide +kernel
theorem dX0_readAct_11 : decode cX0_readAct 11 = .ok (.getfield 78, 3) := by decide +kernel
theorem dX0_readAct_14 : decode cX0_readAct 14 = .ok (.iconst 1, 1) := by decide +kernel
theorem dX0_readAct_15 : decode cX0_readAct 15 = .ok (.if_icmp .ne 13, 3) := by decide +kernel
theorem dX0_readAct_18 : decode cX0_readAct 18 = .ok (.aload_n 0, 1) := by decide +kernel
theorem dX0_readAct_19 : decode cX0_readAct 19 = .ok (.getfield 21, 3) := by decide +kernel
theorem dX0_readAct_22 : decode cX0_readAct 22 = .ok (.getfield 81, 3) := by decide +kernel
theorem dX0_readAct_25 : decode cX0_readAct 25 = .ok (.goto 4, 3) := by decide +kernel
theorem dX0_readAct_28 : decode cX0_readAct 28 = .ok (.iconst (-1), 1) := by decide +kernel
theorem dX0_readAct_29 : decode cX0_readAct 29 = .ok (.istore_n 2, 1) := by decide +kernel
theorem dX0_readAct_30 : decode cX0_readAct 30 = .ok (.iload_n 2, 1) := by decide +kernel
theorem dX0_readAct_31 : decode cX0_readAct 31 = .ok (.tableswitch 122 5 16 #[61, 122, 122, 122, 122, 122, 122, 122, 61, 79, 97, 105], 61) := by decide +kernel
theorem dX0_readAct_92 : decode cX0_readAct 92 = .ok (.aload_n 0, 1) := by decide +kernel
theorem dX0_readAct_93 : decode cX0_readAct 93 = .ok (.iload_n 2, 1) := by decide +kernel
theorem dX0_readAct_94 : decode cX0_readAct 94 = .ok (.iload_n 1, 1) := by decide +kernel
theorem dX0_readAct_95 : decode cX0_readAct 95 = .ok (.aload_n 0, 1) := by decide +kernel
theorem dX0_readAct_96 : decode cX0_readAct 96 = .ok (.getfield 21, 3) := by decide +kernel
theorem dX0_readAct_99 : decode cX0_readAct 99 = .ok (.aload_n 0, 1) := by decide +kernel
theorem dX0_readAct_100 : decode cX0_readAct 100 = .ok (.getfield 25, 3) := by decide +kernel
theorem dX0_readAct_103 : decode cX0_readAct 103 = .ok (.invokevirtual 84, 3) := by decide +kernel
theorem dX0_readAct_106 : decode cX0_readAct 106 = .ok (.invokevirtual 87, 3) := by decide +kernel
theorem dX0_readAct_109 : decode cX0_readAct 109 = .ok (.ireturn, 1) := by decide +kernel
theorem dX0_readAct_110 : decode cX0_readAct 110 = .ok (.aload_n 0, 1) := by decide +kernel
theorem dX0_readAct_111 : decode cX0_readAct 111 = .ok (.iload_n 2, 1) := by decide +kernel
theorem dX0_readAct_112 : decode cX0_readAct 112 = .ok (.iload_n 1, 1) := by decide +kernel
theorem dX0_readAct_113 : decode cX0_readAct 113 = .ok (.aload_n 0, 1) := by decide +kernel
theorem dX0_readAct_114 : decode cX0_readAct 114 = .ok (.getfield 21, 3) := by decide +kernel
theorem dX0_readAct_117 : decode cX0_readAct 117 = .ok (.bipush 8, 2) := by decide +kernel
theorem dX0_readAct_119 : decode cX0_readAct 119 = .ok (.bipush 10, 2) := by decide +kernel
theorem dX0_readAct_121 : decode cX0_readAct 121 = .ok (.invokevirtual 91, 3) := by decide +kernel
theorem dX0_readAct_124 : decode cX0_readAct 124 = .ok (.invokevirtual 87, 3) := by decide +kernel
theorem dX0_readAct_127 : decode cX0_readAct 127 = .ok (.ireturn, 1) := by decide +kernel
theorem dX0_readAct_128 : decode cX0_readAct 128 = .ok (.aload_n 0, 1) := by decide +kernel
theorem dX0_readAct_129 : decode cX0_readAct 129 = .ok (.iload_n 2, 1) := by decide +kernel
theorem dX0_readAct_130 : decode cX0_readAct 130 = .ok (.iload_n 1, 1) := by decide +kernel
theorem dX0_readAct_131 : decode cX0_readAct 131 = .ok (.iconst 0, 1) := by decide +kernel
theorem dX0_readAct_132 : decode cX0_readAct 132 = .ok (.invokevirtual 87, 3) := by decide +kernel
theorem dX0_readAct_135 : decode cX0_readAct 135 = .ok (.ireturn, 1) := by decide +kernel
theorem dX0_readAct_136 : decode cX0_readAct 136 = .ok (.aload_n 0, 1) := by decide +kernel
theorem dX0_readAct_137 : decode cX0_readAct 137 = .ok (.iload_n 1, 1) := by decide +kernel
theorem dX0_readAct_138 : decode cX0_readAct 138 = .ok (.aload_n 0, 1) := by decide +kernel
theorem dX0_readAct_139 : decode cX0_readAct 139 = .ok (.getfield 21, 3) := by decide +kernel
theorem dX0_readAct_142 : decode cX0_readAct 142 = .ok (.aload_n 0, 1) := by decide +kernel
theorem dX0_readAct_143 : decode cX0_readAct 143 = .ok (.getfield 25, 3) := by decide +kernel
theorem dX0_readAct_146 : decode cX0_readAct 146 = .ok (.invokevirtual 94, 3) := by decide +kernel
theorem dX0_readAct_149 : decode cX0_readAct 149 = .ok (.invokevirtual 97, 3) := by decide +kernel
theorem dX0_readAct_152 : decode cX0_readAct 152 = .ok (.ireturn, 1) := by decide +kernel
theorem dX0_readAct_153 : decode cX0_readAct 153 = .ok (.aload_n 0, 1) := by decide +kernel
theorem dX0_readAct_154 : decode cX0_readAct 154 = .ok (.getfield 21, 3) := by decide +kernel
theorem dX0_readAct_157 : decode cX0_readAct 157 = .ok (.iconst 1, 1) := by decide +kernel
theorem dX0_readAct_158 : decode cX0_readAct 158 = .ok (.invokevirtual 57, 3) := by decide +kernel
theorem dX0_readAct_161 : decode cX0_readAct 161 = .ok (.pop, 1) := by decide +kernel
theorem dX0_readAct_162 : decode cX0_readAct 162 = .ok (.iconst 0, 1) := by decide +kernel
theorem dX0_readAct_163 : decode cX0_readAct 163 = .ok (.ireturn, 1) := by decide +kernel
theorem dX0_addMeeting_0 : decode cX0_addMeeting 0 = .ok (.iload_n 2, 1) := by decide +kernel
theorem dX0_addMeeting_1 : decode cX0_addMeeting 1 = .ok (.iconst (-1), 1) := by decide +kernel
theorem dX0_addMeeting_2 : decode cX0_addMeeting 2 = .ok (.if_icmp .eq 19, 3) := by decide +kernel
theorem dX0_addMeeting_5 : decode cX0_addMeeting 5 = .ok (.iload_n 2, 1) := by decide +kernel
theorem dX0_addMeeting_6 : decode cX0_addMeeting 6 = .ok (.iload_n 1, 1) := by decide +kernel
theorem dX0_addMeeting_7 : decode cX0_addMeeting 7 = .ok (.if_icmp .ne 14, 3) := by decide +kernel
theorem dX0_addMeeting_10 : decode cX0_addMeeting 10 = .ok (.aload_n 0, 1) := by decide +kernel
theorem dX0_addMeeting_11 : decode cX0_addMeeting 11 = .ok (.getfield 21, 3) := by decide +kernel
theorem dX0_addMeeting_14 : decode cX0_addMeeting 14 = .ok (.iconst 3, 1) := by decide +kernel
theorem dX0_addMeeting_15 : decode cX0_addMeeting 15 = .ok (.invokevirtual 57, 3) := by decide +kernel
theorem dX0_addMeeting_18 : decode cX0_addMeeting 18 = .ok (.pop, 1) := by decide +kernel
theorem dX0_addMeeting_19 : decode cX0_addMeeting 19 = .ok (.iconst 0, 1) := by decide +kernel
theorem dX0_addMeeting_20 : decode cX0_addMeeting 20 = .ok (.ireturn, 1) := by decide +kernel
theorem dX0_addMeeting_21 : decode cX0_addMeeting 21 = .ok (.aload_n 0, 1) := by decide +kernel
theorem dX0_addMeeting_22 : decode cX0_addMeeting 22 = .ok (.bipush 16, 2) := by decide +kernel
theorem dX0_addMeeting_24 : decode cX0_addMeeting 24 = .ok (.iload_n 1, 1) := by decide +kernel
theorem dX0_addMeeting_25 : decode cX0_addMeeting 25 = .ok (.iload_n 2, 1) := by decide +kernel
theorem dX0_addMeeting_26 : decode cX0_addMeeting 26 = .ok (.invokevirtual 87, 3) := by decide +kernel
theorem dX0_addMeeting_29 : decode cX0_addMeeting 29 = .ok (.ireturn, 1) := by decide +kernel
theorem dX0_addAct_0 : decode cX0_addAct 0 = .ok (.aload_n 0, 1) := by decide +kernel
theorem dX0_addAct_1 : decode cX0_addAct 1 = .ok (.iload_n 1, 1) := by decide +kernel
theorem dX0_addAct_2 : decode cX0_addAct 2 = .ok (.iload_n 2, 1) := by decide +kernel
theorem dX0_addAct_3 : decode cX0_addAct 3 = .ok (.iload_n 3, 1) := by decide +kernel
theorem dX0_addAct_4 : decode cX0_addAct 4 = .ok (.invokevirtual 71, 3) := by decide +kernel
theorem dX0_addAct_7 : decode cX0_addAct 7 = .ok (.iload_n 3, 1) := by decide +kernel
theorem dX0_addAct_8 : decode cX0_addAct 8 = .ok (.iconst (-1), 1) := by decide +kernel
theorem dX0_addAct_9 : decode cX0_addAct 9 = .ok (.if_icmp .eq 7, 3) := by decide +kernel
theorem dX0_addAct_12 : decode cX0_addAct 12 = .ok (.iconst 1, 1) := by decide +kernel
theorem dX0_addAct_13 : decode cX0_addAct 13 = .ok (.goto 4, 3) := by decide +kernel
theorem dX0_addAct_16 : decode cX0_addAct 16 = .ok (.iconst 0, 1) := by decide +kernel
theorem dX0_addAct_17 : decode cX0_addAct 17 = .ok (.ireturn, 1) := by decide +kernel
theorem dX0_add_0 : decode cX0_add 0 = .ok (.aload_n 0, 1) := by decide +kernel
theorem dX0_add_1 : decode cX0_add 1 = .ok (.getfield 29, 3) := by decide +kernel
theorem dX0_add_4 : decode cX0_add 4 = .ok (.bipush 40, 2) := by decide +kernel
theorem dX0_add_6 : decode cX0_add 6 = .ok (.if_icmp .ge 43, 3) := by decide +kernel
theorem dX0_add_9 : decode cX0_add 9 = .ok (.aload_n 0, 1) := by decide +kernel
theorem dX0_add_10 : decode cX0_add 10 = .ok (.getfield 9, 3) := by decide +kernel
theorem dX0_add_13 : decode cX0_add 13 = .ok (.aload_n 0, 1) := by decide +kernel
theorem dX0_add_14 : decode cX0_add 14 = .ok (.getfield 29, 3) := by decide +kernel
theorem dX0_add_17 : decode cX0_add 17 = .ok (.iload_n 1, 1) := by decide +kernel
theorem dX0_add_18 : decode cX0_add 18 = .ok (.iastore, 1) := by decide +kernel
theorem dX0_add_19 : decode cX0_add 19 = .ok (.aload_n 0, 1) := by decide +kernel
theorem dX0_add_20 : decode cX0_add 20 = .ok (.getfield 15, 3) := by decide +kernel
theorem dX0_add_23 : decode cX0_add 23 = .ok (.aload_n 0, 1) := by decide +kernel
theorem dX0_add_24 : decode cX0_add 24 = .ok (.getfield 29, 3) := by decide +kernel
theorem dX0_add_27 : decode cX0_add 27 = .ok (.iload_n 2, 1) := by decide +kernel
theorem dX0_add_28 : decode cX0_add 28 = .ok (.iastore, 1) := by decide +kernel
theorem dX0_add_29 : decode cX0_add 29 = .ok (.aload_n 0, 1) := by decide +kernel
theorem dX0_add_30 : decode cX0_add 30 = .ok (.getfield 18, 3) := by decide +kernel
theorem dX0_add_33 : decode cX0_add 33 = .ok (.aload_n 0, 1) := by decide +kernel
theorem dX0_add_34 : decode cX0_add 34 = .ok (.getfield 29, 3) := by decide +kernel
theorem dX0_add_37 : decode cX0_add 37 = .ok (.iload_n 3, 1) := by decide +kernel
theorem dX0_add_38 : decode cX0_add 38 = .ok (.iastore, 1) := by decide +kernel
theorem dX0_add_39 : decode cX0_add 39 = .ok (.aload_n 0, 1) := by decide +kernel
theorem dX0_add_40 : decode cX0_add 40 = .ok (.dup, 1) := by decide +kernel
theorem dX0_add_41 : decode cX0_add 41 = .ok (.getfield 29, 3) := by decide +kernel
theorem dX0_add_44 : decode cX0_add 44 = .ok (.iconst 1, 1) := by decide +kernel
theorem dX0_add_45 : decode cX0_add 45 = .ok (.iadd, 1) := by decide +kernel
theorem dX0_add_46 : decode cX0_add 46 = .ok (.putfield 29, 3) := by decide +kernel
theorem dX0_add_49 : decode cX0_add 49 = .ok (.return_, 1) := by decide +kernel
theorem dX0_live_0 : decode cX0_live 0 = .ok (.aload_n 0, 1) := by decide +kernel
theorem dX0_live_1 : decode cX0_live 1 = .ok (.iconst 0, 1) := by decide +kernel
theorem dX0_live_2 : decode cX0_live 2 = .ok (.putfield 101, 3) := by decide +kernel
theorem dX0_live_5 : decode cX0_live 5 = .ok (.aload_n 0, 1) := by decide +kernel
theorem dX0_live_6 : decode cX0_live 6 = .ok (.iconst 0, 1) := by decide +kernel
theorem dX0_live_7 : decode cX0_live 7 = .ok (.putfield 104, 3) := by decide +kernel
theorem dX0_live_10 : decode cX0_live 10 = .ok (.iconst 0, 1) := by decide +kernel
theorem dX0_live_11 : decode cX0_live 11 = .ok (.istore_n 2, 1) := by decide +kernel
theorem dX0_live_12 : decode cX0_live 12 = .ok (.iload_n 2, 1) := by decide +kernel
theorem dX0_live_13 : decode cX0_live 13 = .ok (.aload_n 0, 1) := by decide +kernel
theorem dX0_live_14 : decode cX0_live 14 = .ok (.getfield 29, 3) := by decide +kernel
theorem dX0_live_17 : decode cX0_live 17 = .ok (.if_icmp .ge 61, 3) := by decide +kernel
theorem dX0_live_20 : decode cX0_live 20 = .ok (.iload_n 2, 1) := by decide +kernel
theorem dX0_live_21 : decode cX0_live 21 = .ok (.bipush 40, 2) := by decide +kernel
theorem dX0_live_23 : decode cX0_live 23 = .ok (.if_icmp .ge 55, 3) := by decide +kernel
theorem dX0_live_26 : decode cX0_live 26 = .ok (.aload_n 0, 1) := by decide +kernel
theorem dX0_live_27 : decode cX0_live 27 = .ok (.aload_n 1, 1) := by decide +kernel
theorem dX0_live_28 : decode cX0_live 28 = .ok (.aload_n 0, 1) := by decide +kernel
theorem dX0_live_29 : decode cX0_live 29 = .ok (.getfield 9, 3) := by decide +kernel
theorem dX0_live_32 : decode cX0_live 32 = .ok (.iload_n 2, 1) := by decide +kernel
theorem dX0_live_33 : decode cX0_live 33 = .ok (.iaload, 1) := by decide +kernel
theorem dX0_live_34 : decode cX0_live 34 = .ok (.aload_n 0, 1) := by decide +kernel
theorem dX0_live_35 : decode cX0_live 35 = .ok (.getfield 15, 3) := by decide +kernel
theorem dX0_live_38 : decode cX0_live 38 = .ok (.iload_n 2, 1) := by decide +kernel
theorem dX0_live_39 : decode cX0_live 39 = .ok (.iaload, 1) := by decide +kernel
theorem dX0_live_40 : decode cX0_live 40 = .ok (.aload_n 0, 1) := by decide +kernel
theorem dX0_live_41 : decode cX0_live 41 = .ok (.getfield 18, 3) := by decide +kernel
theorem dX0_live_44 : decode cX0_live 44 = .ok (.iload_n 2, 1) := by decide +kernel
theorem dX0_live_45 : decode cX0_live 45 = .ok (.iaload, 1) := by decide +kernel
theorem dX0_live_46 : decode cX0_live 46 = .ok (.invokestatic 107, 3) := by decide +kernel
theorem dX0_live_49 : decode cX0_live 49 = .ok (.putfield 101, 3) := by decide +kernel
theorem dX0_live_52 : decode cX0_live 52 = .ok (.aload_n 0, 1) := by decide +kernel
theorem dX0_live_53 : decode cX0_live 53 = .ok (.getfield 101, 3) := by decide +kernel
theorem dX0_live_56 : decode cX0_live 56 = .ok (.ifCond .eq 6, 3) := by decide +kernel
theorem dX0_live_59 : decode cX0_live 59 = .ok (.goto 19, 3) := by decide +kernel
theorem dX0_live_62 : decode cX0_live 62 = .ok (.aload_n 0, 1) := by decide +kernel
theorem dX0_live_63 : decode cX0_live 63 = .ok (.dup, 1) := by decide +kernel
theorem dX0_live_64 : decode cX0_live 64 = .ok (.getfield 104, 3) := by decide +kernel
theorem dX0_live_67 : decode cX0_live 67 = .ok (.iconst 1, 1) := by decide +kernel
theorem dX0_live_68 : decode cX0_live 68 = .ok (.iadd, 1) := by decide +kernel
theorem dX0_live_69 : decode cX0_live 69 = .ok (.putfield 104, 3) := by decide +kernel
theorem dX0_live_72 : decode cX0_live 72 = .ok (.iinc 2 1, 3) := by decide +kernel
theorem dX0_live_75 : decode cX0_live 75 = .ok (.goto (-63), 3) := by decide +kernel
theorem dX0_live_78 : decode cX0_live 78 = .ok (.aload_n 0, 1) := by decide +kernel
theorem dX0_live_79 : decode cX0_live 79 = .ok (.iconst 1, 1) := by decide +kernel
theorem dX0_live_80 : decode cX0_live 80 = .ok (.putfield 111, 3) := by decide +kernel
theorem dX0_live_83 : decode cX0_live 83 = .ok (.aload_n 0, 1) := by decide +kernel
theorem dX0_live_84 : decode cX0_live 84 = .ok (.aload_n 1, 1) := by decide +kernel
theorem dX0_live_85 : decode cX0_live 85 = .ok (.getfield 115, 3) := by decide +kernel
theorem dX0_live_88 : decode cX0_live 88 = .ok (.putfield 120, 3) := by decide +kernel
theorem dX0_live_91 : decode cX0_live 91 = .ok (.aload_n 0, 1) := by decide +kernel
theorem dX0_live_92 : decode cX0_live 92 = .ok (.aload_n 1, 1) := by decide +kernel
theorem dX0_live_93 : decode cX0_live 93 = .ok (.iconst 2, 1) := by decide +kernel
theorem dX0_live_94 : decode cX0_live 94 = .ok (.invokevirtual 123, 3) := by decide +kernel
theorem dX0_live_97 : decode cX0_live 97 = .ok (.putfield 126, 3) := by decide +kernel
theorem dX0_live_100 : decode cX0_live 100 = .ok (.return_, 1) := by decide +kernel
theorem dX0_liveLine_0 : decode cX0_liveLine 0 = .ok (.iload_n 1, 1) := by decide +kernel
theorem dX0_liveLine_1 : decode cX0_liveLine 1 = .ok (.tableswitch 121 5 16 #[109, 121, 121, 121, 121, 121, 121, 121, 63, 74, 86, 97], 63) := by decide +kernel
theorem dX0_liveLine_64 : decode cX0_liveLine 64 = .ok (.iconst 0, 1) := by decide +kernel
theorem dX0_liveLine_65 : decode cX0_liveLine 65 = .ok (.aload_n 0, 1) := by decide +kernel
theorem dX0_liveLine_66 : decode cX0_liveLine 66 = .ok (.iload_n 2, 1) := by decide +kernel
theorem dX0_liveLine_67 : decode cX0_liveLine 67 = .ok (.iload_n 3, 1) := by decide +kernel
theorem dX0_liveLine_68 : decode cX0_liveLine 68 = .ok (.invokevirtual 129, 3) := by decide +kernel
theorem dX0_liveLine_71 : decode cX0_liveLine 71 = .ok (.invokestatic 132, 3) := by decide +kernel
theorem dX0_liveLine_74 : decode cX0_liveLine 74 = .ok (.ireturn, 1) := by decide +kernel
theorem dX0_liveLine_75 : decode cX0_liveLine 75 = .ok (.bipush 10, 2) := by decide +kernel
theorem dX0_liveLine_77 : decode cX0_liveLine 77 = .ok (.aload_n 0, 1) := by decide +kernel
theorem dX0_liveLine_78 : decode cX0_liveLine 78 = .ok (.iload_n 2, 1) := by decide +kernel
theorem dX0_liveLine_79 : decode cX0_liveLine 79 = .ok (.iload_n 3, 1) := by decide +kernel
theorem dX0_liveLine_80 : decode cX0_liveLine 80 = .ok (.invokevirtual 135, 3) := by decide +kernel
theorem dX0_liveLine_83 : decode cX0_liveLine 83 = .ok (.invokestatic 132, 3) := by decide +kernel
theorem dX0_liveLine_86 : decode cX0_liveLine 86 = .ok (.ireturn, 1) := by decide +kernel
theorem dX0_liveLine_87 : decode cX0_liveLine 87 = .ok (.bipush 20, 2) := by decide +kernel
theorem dX0_liveLine_89 : decode cX0_liveLine 89 = .ok (.aload_n 0, 1) := by decide +kernel
theorem dX0_liveLine_90 : decode cX0_liveLine 90 = .ok (.iload_n 2, 1) := by decide +kernel
theorem dX0_liveLine_91 : decode cX0_liveLine 91 = .ok (.invokevirtual 138, 3) := by decide +kernel
theorem dX0_liveLine_94 : decode cX0_liveLine 94 = .ok (.invokestatic 132, 3) := by decide +kernel
theorem dX0_liveLine_97 : decode cX0_liveLine 97 = .ok (.ireturn, 1) := by decide +kernel
theorem dX0_liveLine_98 : decode cX0_liveLine 98 = .ok (.bipush 30, 2) := by decide +kernel
theorem dX0_liveLine_100 : decode cX0_liveLine 100 = .ok (.aload_n 0, 1) := by decide +kernel
theorem dX0_liveLine_101 : decode cX0_liveLine 101 = .ok (.iload_n 2, 1) := by decide +kernel
theorem dX0_liveLine_102 : decode cX0_liveLine 102 = .ok (.iload_n 3, 1) := by decide +kernel
theorem dX0_liveLine_103 : decode cX0_liveLine 103 = .ok (.invokevirtual 141, 3) := by decide +kernel
theorem dX0_liveLine_106 : decode cX0_liveLine 106 = .ok (.invokestatic 132, 3) := by decide +kernel
theorem dX0_liveLine_109 : decode cX0_liveLine 109 = .ok (.ireturn, 1) := by decide +kernel
theorem dX0_liveLine_110 : decode cX0_liveLine 110 = .ok (.bipush 40, 2) := by decide +kernel
theorem dX0_liveLine_112 : decode cX0_liveLine 112 = .ok (.aload_n 0, 1) := by decide +kernel
theorem dX0_liveLine_113 : decode cX0_liveLine 113 = .ok (.iload_n 2, 1) := by decide +kernel
theorem dX0_liveLine_114 : decode cX0_liveLine 114 = .ok (.iload_n 3, 1) := by decide +kernel
theorem dX0_liveLine_115 : decode cX0_liveLine 115 = .ok (.invokevirtual 144, 3) := by decide +kernel
theorem dX0_liveLine_118 : decode cX0_liveLine 118 = .ok (.invokestatic 132, 3) := by decide +kernel
theorem dX0_liveLine_121 : decode cX0_liveLine 121 = .ok (.ireturn, 1) := by decide +kernel
theorem dX0_liveLine_122 : decode cX0_liveLine 122 = .ok (.aload_n 0, 1) := by decide +kernel
theorem dX0_liveLine_123 : decode cX0_liveLine 123 = .ok (.getfield 115, 3) := by decide +kernel
theorem dX0_liveLine_126 : decode cX0_liveLine 126 = .ok (.iload_n 2, 1) := by decide +kernel
theorem dX0_liveLine_127 : decode cX0_liveLine 127 = .ok (.iadd, 1) := by decide +kernel
theorem dX0_liveLine_128 : decode cX0_liveLine 128 = .ok (.sipush 1000, 3) := by decide +kernel
theorem dX0_liveLine_131 : decode cX0_liveLine 131 = .ok (.if_icmp .le 6, 3) := by decide +kernel
theorem dX0_liveLine_134 : decode cX0_liveLine 134 = .ok (.bipush 51, 2) := by decide +kernel
theorem dX0_liveLine_136 : decode cX0_liveLine 136 = .ok (.ireturn, 1) := by decide +kernel
theorem dX0_liveLine_137 : decode cX0_liveLine 137 = .ok (.iconst 0, 1) := by decide +kernel
theorem dX0_liveLine_138 : decode cX0_liveLine 138 = .ok (.istore 4, 2) := by decide +kernel
theorem dX0_liveLine_140 : decode cX0_liveLine 140 = .ok (.iload 4, 2) := by decide +kernel
theorem dX0_liveLine_142 : decode cX0_liveLine 142 = .ok (.iload_n 2, 1) := by decide +kernel
theorem dX0_liveLine_143 : decode cX0_liveLine 143 = .ok (.if_icmp .ge 13, 3) := by decide +kernel
theorem dX0_liveLine_146 : decode cX0_liveLine 146 = .ok (.aload_n 0, 1) := by decide +kernel
theorem dX0_liveLine_147 : decode cX0_liveLine 147 = .ok (.invokevirtual 147, 3) := by decide +kernel
theorem dX0_liveLine_150 : decode cX0_liveLine 150 = .ok (.iinc 4 1, 3) := by decide +kernel
theorem dX0_liveLine_153 : decode cX0_liveLine 153 = .ok (.goto (-13), 3) := by decide +kernel
theorem dX0_liveLine_156 : decode cX0_liveLine 156 = .ok (.iconst 0, 1) := by decide +kernel
theorem dX0_liveLine_157 : decode cX0_liveLine 157 = .ok (.ireturn, 1) := by decide +kernel
theorem dX0_reason_0 : decode cX0_reason 0 = .ok (.iload_n 1, 1) := by decide +kernel
theorem dX0_reason_1 : decode cX0_reason 1 = .ok (.ifCond .ne 7, 3) := by decide +kernel
theorem dX0_reason_4 : decode cX0_reason 4 = .ok (.iconst 0, 1) := by decide +kernel
theorem dX0_reason_5 : decode cX0_reason 5 = .ok (.goto 6, 3) := by decide +kernel
theorem dX0_reason_8 : decode cX0_reason 8 = .ok (.iload_n 0, 1) := by decide +kernel
theorem dX0_reason_9 : decode cX0_reason 9 = .ok (.iload_n 1, 1) := by decide +kernel
theorem dX0_reason_10 : decode cX0_reason 10 = .ok (.iadd, 1) := by decide +kernel
theorem dX0_reason_11 : decode cX0_reason 11 = .ok (.ireturn, 1) := by decide +kernel
theorem dX0_tell_0 : decode cX0_tell 0 = .ok (.aload_n 0, 1) := by decide +kernel
theorem dX0_tell_1 : decode cX0_tell 1 = .ok (.getfield 111, 3) := by decide +kernel
theorem dX0_tell_4 : decode cX0_tell 4 = .ok (.ifCond .ne 5, 3) := by decide +kernel
theorem dX0_tell_7 : decode cX0_tell 7 = .ok (.iconst (-1), 1) := by decide +kernel
theorem dX0_tell_8 : decode cX0_tell 8 = .ok (.ireturn, 1) := by decide +kernel
theorem dX0_tell_9 : decode cX0_tell 9 = .ok (.iload_n 1, 1) := by decide +kernel
theorem dX0_tell_10 : decode cX0_tell 10 = .ok (.tableswitch 50 0 3 #[30, 35, 40, 45], 30) := by decide +kernel
theorem dX0_tell_40 : decode cX0_tell 40 = .ok (.aload_n 0, 1) := by decide +kernel
theorem dX0_tell_41 : decode cX0_tell 41 = .ok (.getfield 101, 3) := by decide +kernel
theorem dX0_tell_44 : decode cX0_tell 44 = .ok (.ireturn, 1) := by decide +kernel
theorem dX0_tell_45 : decode cX0_tell 45 = .ok (.aload_n 0, 1) := by decide +kernel
theorem dX0_tell_46 : decode cX0_tell 46 = .ok (.getfield 104, 3) := by decide +kernel
theorem dX0_tell_49 : decode cX0_tell 49 = .ok (.ireturn, 1) := by decide +kernel
theorem dX0_tell_50 : decode cX0_tell 50 = .ok (.aload_n 0, 1) := by decide +kernel
theorem dX0_tell_51 : decode cX0_tell 51 = .ok (.getfield 120, 3) := by decide +kernel
theorem dX0_tell_54 : decode cX0_tell 54 = .ok (.ireturn, 1) := by decide +kernel
theorem dX0_tell_55 : decode cX0_tell 55 = .ok (.aload_n 0, 1) := by decide +kernel
theorem dX0_tell_56 : decode cX0_tell 56 = .ok (.getfield 126, 3) := by decide +kernel
theorem dX0_tell_59 : decode cX0_tell 59 = .ok (.ireturn, 1) := by decide +kernel
theorem dX0_tell_60 : decode cX0_tell 60 = .ok (.iconst (-1), 1) := by decide +kernel
theorem dX0_tell_61 : decode cX0_tell 61 = .ok (.ireturn, 1) := by decide +kernel
theorem dX1_init_0 : decode cX1_init 0 = .ok (.aload_n 0, 1) := by decide +kernel
theorem dX1_init_1 : decode cX1_init 1 = .ok (.invokespecial 3, 3) := by decide +kernel
theorem dX1_init_4 : decode cX1_init 4 = .ok (.aload_n 0, 1) := by decide +kernel
theorem dX1_init_5 : decode cX1_init 5 = .ok (.bipush 8, 2) := by decide +kernel
theorem dX1_init_7 : decode cX1_init 7 = .ok (.newarray .int, 2) := by decide +kernel
theorem dX1_init_9 : decode cX1_init 9 = .ok (.putfield 9, 3) := by decide +kernel
theorem dX1_init_12 : decode cX1_init 12 = .ok (.aload_n 0, 1) := by decide +kernel
theorem dX1_init_13 : decode cX1_init 13 = .ok (.bipush 8, 2) := by decide +kernel
theorem dX1_init_15 : decode cX1_init 15 = .ok (.newarray .int, 2) := by decide +kernel
theorem dX1_init_17 : decode cX1_init 17 = .ok (.putfield 15, 3) := by decide +kernel
theorem dX1_init_20 : decode cX1_init 20 = .ok (.return_, 1) := by decide +kernel
theorem dX1_find_0 : decode cX1_find 0 = .ok (.aload_n 0, 1) := by decide +kernel
theorem dX1_find_1 : decode cX1_find 1 = .ok (.getfield 15, 3) := by decide +kernel
theorem dX1_find_4 : decode cX1_find 4 = .ok (.iconst 0, 1) := by decide +kernel
theorem dX1_find_5 : decode cX1_find 5 = .ok (.iconst 1, 1) := by decide +kernel
theorem dX1_find_6 : decode cX1_find 6 = .ok (.iload_n 3, 1) := by decide +kernel
theorem dX1_find_7 : decode cX1_find 7 = .ok (.ishl, 1) := by decide +kernel
theorem dX1_find_8 : decode cX1_find 8 = .ok (.iastore, 1) := by decide +kernel
theorem dX1_find_9 : decode cX1_find 9 = .ok (.iconst 0, 1) := by decide +kernel
theorem dX1_find_10 : decode cX1_find 10 = .ok (.istore 4, 2) := by decide +kernel
theorem dX1_find_12 : decode cX1_find 12 = .ok (.iload 4, 2) := by decide +kernel
theorem dX1_find_14 : decode cX1_find 14 = .ok (.iconst 1, 1) := by decide +kernel
theorem dX1_find_15 : decode cX1_find 15 = .ok (.iadd, 1) := by decide +kernel
theorem dX1_find_16 : decode cX1_find 16 = .ok (.bipush 8, 2) := by decide +kernel
theorem dX1_find_18 : decode cX1_find 18 = .ok (.if_icmp .ge 43, 3) := by decide +kernel
theorem dX1_find_21 : decode cX1_find 21 = .ok (.aload_n 0, 1) := by decide +kernel
theorem dX1_find_22 : decode cX1_find 22 = .ok (.getfield 15, 3) := by decide +kernel
theorem dX1_find_25 : decode cX1_find 25 = .ok (.iload 4, 2) := by decide +kernel
theorem dX1_find_27 : decode cX1_find 27 = .ok (.iaload, 1) := by decide +kernel
theorem dX1_find_28 : decode cX1_find 28 = .ok (.iload_n 2, 1) := by decide +kernel
theorem dX1_find_29 : decode cX1_find 29 = .ok (.invokestatic 18, 3) := by decide +kernel
theorem dX1_find_32 : decode cX1_find 32 = .ok (.ifCond .ne 29, 3) := by decide +kernel
theorem dX1_find_35 : decode cX1_find 35 = .ok (.iinc 4 1, 3) := by decide +kernel
theorem dX1_find_38 : decode cX1_find 38 = .ok (.aload_n 0, 1) := by decide +kernel
theorem dX1_find_39 : decode cX1_find 39 = .ok (.getfield 15, 3) := by decide +kernel
theorem dX1_find_42 : decode cX1_find 42 = .ok (.iload 4, 2) := by decide +kernel
theorem dX1_find_44 : decode cX1_find 44 = .ok (.aload_n 1, 1) := by decide +kernel
theorem dX1_find_45 : decode cX1_find 45 = .ok (.aload_n 0, 1) := by decide +kernel
theorem dX1_find_46 : decode cX1_find 46 = .ok (.getfield 15, 3) := by decide +kernel
theorem dX1_find_49 : decode cX1_find 49 = .ok (.iload 4, 2) := by decide +kernel
theorem dX1_find_51 : decode cX1_find 51 = .ok (.iconst 1, 1) := by decide +kernel
theorem dX1_find_52 : decode cX1_find 52 = .ok (.isub, 1) := by decide +kernel
theorem dX1_find_53 : decode cX1_find 53 = .ok (.iaload, 1) := by decide +kernel
theorem dX1_find_54 : decode cX1_find 54 = .ok (.invokestatic 22, 3) := by decide +kernel
theorem dX1_find_57 : decode cX1_find 57 = .ok (.iastore, 1) := by decide +kernel
theorem dX1_find_58 : decode cX1_find 58 = .ok (.goto (-46), 3) := by decide +kernel
theorem dX1_find_61 : decode cX1_find 61 = .ok (.aload_n 0, 1) := by decide +kernel
theorem dX1_find_62 : decode cX1_find 62 = .ok (.getfield 15, 3) := by decide +kernel
theorem dX1_find_65 : decode cX1_find 65 = .ok (.iload 4, 2) := by decide +kernel
theorem dX1_find_67 : decode cX1_find 67 = .ok (.iaload, 1) := by decide +kernel
theorem dX1_find_68 : decode cX1_find 68 = .ok (.iload_n 2, 1) := by decide +kernel
theorem dX1_find_69 : decode cX1_find 69 = .ok (.invokestatic 18, 3) := by decide +kernel
theorem dX1_find_72 : decode cX1_find 72 = .ok (.ifCond .ne 5, 3) := by decide +kernel
theorem dX1_find_75 : decode cX1_find 75 = .ok (.iconst (-1), 1) := by decide +kernel
theorem dX1_find_76 : decode cX1_find 76 = .ok (.ireturn, 1) := by decide +kernel
theorem dX1_find_77 : decode cX1_find 77 = .ok (.aload_n 0, 1) := by decide +kernel
theorem dX1_find_78 : decode cX1_find 78 = .ok (.aload_n 1, 1) := by decide +kernel
theorem dX1_find_79 : decode cX1_find 79 = .ok (.iload_n 2, 1) := by decide +kernel
theorem dX1_find_80 : decode cX1_find 80 = .ok (.iload 4, 2) := by decide +kernel
theorem dX1_find_82 : decode cX1_find 82 = .ok (.invokevirtual 26, 3) := by decide +kernel
theorem dX1_find_85 : decode cX1_find 85 = .ok (.iload 4, 2) := by decide +kernel
theorem dX1_find_87 : decode cX1_find 87 = .ok (.ireturn, 1) := by decide +kernel
theorem dX1_knownToAny_0 : decode cX1_knownToAny 0 = .ok (.iconst 0, 1) := by decide +kernel
theorem dX1_knownToAny_1 : decode cX1_knownToAny 1 = .ok (.istore_n 2, 1) := by decide +kernel
theorem dX1_knownToAny_2 : decode cX1_knownToAny 2 = .ok (.iconst 0, 1) := by decide +kernel
theorem dX1_knownToAny_3 : decode cX1_knownToAny 3 = .ok (.istore_n 3, 1) := by decide +kernel
theorem dX1_knownToAny_4 : decode cX1_knownToAny 4 = .ok (.iload_n 3, 1) := by decide +kernel
theorem dX1_knownToAny_5 : decode cX1_knownToAny 5 = .ok (.bipush 8, 2) := by decide +kernel
theorem dX1_knownToAny_7 : decode cX1_knownToAny 7 = .ok (.if_icmp .ge 25, 3) := by decide +kernel
theorem dX1_knownToAny_10 : decode cX1_knownToAny 10 = .ok (.iload_n 1, 1) := by decide +kernel
theorem dX1_knownToAny_11 : decode cX1_knownToAny 11 = .ok (.iload_n 3, 1) := by decide +kernel
theorem dX1_knownToAny_12 : decode cX1_knownToAny 12 = .ok (.invokestatic 18, 3) := by decide +kernel
theorem dX1_knownToAny_15 : decode cX1_knownToAny 15 = .ok (.ifCond .eq 11, 3) := by decide +kernel
theorem dX1_knownToAny_18 : decode cX1_knownToAny 18 = .ok (.iload_n 2, 1) := by decide +kernel
theorem dX1_knownToAny_19 : decode cX1_knownToAny 19 = .ok (.aload_n 0, 1) := by decide +kernel
theorem dX1_knownToAny_20 : decode cX1_knownToAny 20 = .ok (.iload_n 3, 1) := by decide +kernel
theorem dX1_knownToAny_21 : decode cX1_knownToAny 21 = .ok (.invokevirtual 30, 3) := by decide +kernel
theorem dX1_knownToAny_24 : decode cX1_knownToAny 24 = .ok (.ior, 1) := by decide +kernel
theorem dX1_knownToAny_25 : decode cX1_knownToAny 25 = .ok (.istore_n 2, 1) := by decide +kernel
theorem dX1_knownToAny_26 : decode cX1_knownToAny 26 = .ok (.iinc 3 1, 3) := by decide +kernel
theorem dX1_knownToAny_29 : decode cX1_knownToAny 29 = .ok (.goto (-25), 3) := by decide +kernel
theorem dX1_knownToAny_32 : decode cX1_knownToAny 32 = .ok (.iload_n 2, 1) := by decide +kernel
theorem dX1_knownToAny_33 : decode cX1_knownToAny 33 = .ok (.ireturn, 1) := by decide +kernel
theorem dX1_walk_0 : decode cX1_walk 0 = .ok (.aload_n 0, 1) := by decide +kernel
theorem dX1_walk_1 : decode cX1_walk 1 = .ok (.getfield 9, 3) := by decide +kernel
theorem dX1_walk_4 : decode cX1_walk 4 = .ok (.iconst 0, 1) := by decide +kernel
theorem dX1_walk_5 : decode cX1_walk 5 = .ok (.iload_n 2, 1) := by decide +kernel
theorem dX1_walk_6 : decode cX1_walk 6 = .ok (.iastore, 1) := by decide +kernel
theorem dX1_walk_7 : decode cX1_walk 7 = .ok (.aload_n 0, 1) := by decide +kernel
theorem dX1_walk_8 : decode cX1_walk 8 = .ok (.iconst 1, 1) := by decide +kernel
theorem dX1_walk_9 : decode cX1_walk 9 = .ok (.putfield 36, 3) := by decide +kernel
theorem dX1_walk_12 : decode cX1_walk 12 = .ok (.iload_n 3, 1) := by decide +kernel
theorem dX1_walk_13 : decode cX1_walk 13 = .ok (.iconst 1, 1) := by decide +kernel
theorem dX1_walk_14 : decode cX1_walk 14 = .ok (.isub, 1) := by decide +kernel
theorem dX1_walk_15 : decode cX1_walk 15 = .ok (.istore 4, 2) := by decide +kernel
theorem dX1_walk_17 : decode cX1_walk 17 = .ok (.iload 4, 2) := by decide +kernel
theorem dX1_walk_19 : decode cX1_walk 19 = .ok (.ifCond .lt 71, 3) := by decide +kernel
theorem dX1_walk_22 : decode cX1_walk 22 = .ok (.iload 4, 2) := by decide +kernel
theorem dX1_walk_24 : decode cX1_walk 24 = .ok (.bipush 8, 2) := by decide +kernel
theorem dX1_walk_26 : decode cX1_walk 26 = .ok (.if_icmp .ge 64, 3) := by decide +kernel
theorem dX1_walk_29 : decode cX1_walk 29 = .ok (.aload_n 0, 1) := by decide +kernel
theorem dX1_walk_30 : decode cX1_walk 30 = .ok (.getfield 36, 3) := by decide +kernel
theorem dX1_walk_33 : decode cX1_walk 33 = .ok (.bipush 8, 2) := by decide +kernel
theorem dX1_walk_35 : decode cX1_walk 35 = .ok (.if_icmp .ge 55, 3) := by decide +kernel
theorem dX1_walk_38 : decode cX1_walk 38 = .ok (.aload_n 0, 1) := by decide +kernel
theorem dX1_walk_39 : decode cX1_walk 39 = .ok (.getfield 9, 3) := by decide +kernel
theorem dX1_walk_42 : decode cX1_walk 42 = .ok (.aload_n 0, 1) := by decide +kernel
theorem dX1_walk_43 : decode cX1_walk 43 = .ok (.getfield 36, 3) := by decide +kernel
theorem dX1_walk_46 : decode cX1_walk 46 = .ok (.aload_n 1, 1) := by decide +kernel
theorem dX1_walk_47 : decode cX1_walk 47 = .ok (.aload_n 0, 1) := by decide +kernel
theorem dX1_walk_48 : decode cX1_walk 48 = .ok (.getfield 9, 3) := by decide +kernel
theorem dX1_walk_51 : decode cX1_walk 51 = .ok (.aload_n 0, 1) := by decide +kernel
theorem dX1_walk_52 : decode cX1_walk 52 = .ok (.getfield 36, 3) := by decide +kernel
theorem dX1_walk_55 : decode cX1_walk 55 = .ok (.iconst 1, 1) := by decide +kernel
theorem dX1_walk_56 : decode cX1_walk 56 = .ok (.isub, 1) := by decide +kernel
theorem dX1_walk_57 : decode cX1_walk 57 = .ok (.iaload, 1) := by decide +kernel
theorem dX1_walk_58 : decode cX1_walk 58 = .ok (.invokevirtual 30, 3) := by decide +kernel
theorem dX1_walk_61 : decode cX1_walk 61 = .ok (.aload_n 0, 1) := by decide +kernel
theorem dX1_walk_62 : decode cX1_walk 62 = .ok (.getfield 15, 3) := by decide +kernel
theorem dX1_walk_65 : decode cX1_walk 65 = .ok (.iload 4, 2) := by decide +kernel
theorem dX1_walk_67 : decode cX1_walk 67 = .ok (.iaload, 1) := by decide +kernel
theorem dX1_walk_68 : decode cX1_walk 68 = .ok (.iand, 1) := by decide +kernel
theorem dX1_walk_69 : decode cX1_walk 69 = .ok (.iconst 0, 1) := by decide +kernel
theorem dX1_walk_70 : decode cX1_walk 70 = .ok (.invokestatic 40, 3) := by decide +kernel
theorem dX1_walk_73 : decode cX1_walk 73 = .ok (.iastore, 1) := by decide +kernel
theorem dX1_walk_74 : decode cX1_walk 74 = .ok (.aload_n 0, 1) := by decide +kernel
theorem dX1_walk_75 : decode cX1_walk 75 = .ok (.dup, 1) := by decide +kernel
theorem dX1_walk_76 : decode cX1_walk 76 = .ok (.getfield 36, 3) := by decide +kernel
theorem dX1_walk_79 : decode cX1_walk 79 = .ok (.iconst 1, 1) := by decide +kernel
theorem dX1_walk_80 : decode cX1_walk 80 = .ok (.iadd, 1) := by decide +kernel
theorem dX1_walk_81 : decode cX1_walk 81 = .ok (.putfield 36, 3) := by decide +kernel
theorem dX1_walk_84 : decode cX1_walk 84 = .ok (.iinc 4 (-1), 3) := by decide +kernel
theorem dX1_walk_87 : decode cX1_walk 87 = .ok (.goto (-70), 3) := by decide +kernel
theorem dX1_walk_90 : decode cX1_walk 90 = .ok (.return_, 1) := by decide +kernel
theorem dX1_personAt_0 : decode cX1_personAt 0 = .ok (.iload_n 1, 1) := by decide +kernel
theorem dX1_personAt_1 : decode cX1_personAt 1 = .ok (.ifCond .lt 26, 3) := by decide +kernel
theorem dX1_personAt_4 : decode cX1_personAt 4 = .ok (.iload_n 1, 1) := by decide +kernel
theorem dX1_personAt_5 : decode cX1_personAt 5 = .ok (.aload_n 0, 1) := by decide +kernel
theorem dX1_personAt_6 : decode cX1_personAt 6 = .ok (.getfield 36, 3) := by decide +kernel
theorem dX1_personAt_9 : decode cX1_personAt 9 = .ok (.if_icmp .ge 18, 3) := by decide +kernel
theorem dX1_personAt_12 : decode cX1_personAt 12 = .ok (.iload_n 1, 1) := by decide +kernel
theorem dX1_personAt_13 : decode cX1_personAt 13 = .ok (.bipush 8, 2) := by decide +kernel
theorem dX1_personAt_15 : decode cX1_personAt 15 = .ok (.if_icmp .ge 12, 3) := by decide +kernel
theorem dX1_personAt_18 : decode cX1_personAt 18 = .ok (.aload_n 0, 1) := by decide +kernel
theorem dX1_personAt_19 : decode cX1_personAt 19 = .ok (.getfield 9, 3) := by decide +kernel
theorem dX1_personAt_22 : decode cX1_personAt 22 = .ok (.iload_n 1, 1) := by decide +kernel
theorem dX1_personAt_23 : decode cX1_personAt 23 = .ok (.iaload, 1) := by decide +kernel
theorem dX1_personAt_24 : decode cX1_personAt 24 = .ok (.goto 4, 3) := by decide +kernel
theorem dX1_personAt_27 : decode cX1_personAt 27 = .ok (.iconst (-1), 1) := by decide +kernel
theorem dX1_personAt_28 : decode cX1_personAt 28 = .ok (.ireturn, 1) := by decide +kernel
theorem dX2_init_0 : decode cX2_init 0 = .ok (.aload_n 0, 1) := by decide +kernel
theorem dX2_init_1 : decode cX2_init 1 = .ok (.invokespecial 3, 3) := by decide +kernel
theorem dX2_init_4 : decode cX2_init 4 = .ok (.aload_n 0, 1) := by decide +kernel
theorem dX2_init_5 : decode cX2_init 5 = .ok (.bipush 32, 2) := by decide +kernel
theorem dX2_init_7 : decode cX2_init 7 = .ok (.newarray .byte, 2) := by decide +kernel
theorem dX2_init_9 : decode cX2_init 9 = .ok (.putfield 11, 3) := by decide +kernel
theorem dX2_init_12 : decode cX2_init 12 = .ok (.aload_n 0, 1) := by decide +kernel
theorem dX2_init_13 : decode cX2_init 13 = .ok (.aload_n 1, 1) := by decide +kernel
theorem dX2_init_14 : decode cX2_init 14 = .ok (.putfield 15, 3) := by decide +kernel
theorem dX2_init_17 : decode cX2_init 17 = .ok (.return_, 1) := by decide +kernel
theorem dX2_write_0 : decode cX2_write 0 = .ok (.aload_n 1, 1) := by decide +kernel
theorem dX2_write_1 : decode cX2_write 1 = .ok (.getfield 19, 3) := by decide +kernel
theorem dX2_write_4 : decode cX2_write 4 = .ok (.astore_n 3, 1) := by decide +kernel
theorem dX2_write_5 : decode cX2_write 5 = .ok (.aload_n 0, 1) := by decide +kernel
theorem dX2_write_6 : decode cX2_write 6 = .ok (.iconst 0, 1) := by decide +kernel
theorem dX2_write_7 : decode cX2_write 7 = .ok (.putfield 25, 3) := by decide +kernel
theorem dX2_write_10 : decode cX2_write 10 = .ok (.aload_n 0, 1) := by decide +kernel
theorem dX2_write_11 : decode cX2_write 11 = .ok (.aload_n 3, 1) := by decide +kernel
theorem dX2_write_12 : decode cX2_write 12 = .ok (.iload_n 2, 1) := by decide +kernel
theorem dX2_write_13 : decode cX2_write 13 = .ok (.invokevirtual 29, 3) := by decide +kernel
theorem dX2_write_16 : decode cX2_write 16 = .ok (.invokevirtual 35, 3) := by decide +kernel
theorem dX2_write_19 : decode cX2_write 19 = .ok (.aload_n 1, 1) := by decide +kernel
theorem dX2_write_20 : decode cX2_write 20 = .ok (.iload_n 2, 1) := by decide +kernel
theorem dX2_write_21 : decode cX2_write 21 = .ok (.invokevirtual 39, 3) := by decide +kernel
theorem dX2_write_24 : decode cX2_write 24 = .ok (.ifCond .eq 39, 3) := by decide +kernel
theorem dX2_write_27 : decode cX2_write 27 = .ok (.aload_n 0, 1) := by decide +kernel
theorem dX2_write_28 : decode cX2_write 28 = .ok (.ldc 43, 2) := by decide +kernel
theorem dX2_write_30 : decode cX2_write 30 = .ok (.invokevirtual 45, 3) := by decide +kernel
theorem dX2_write_33 : decode cX2_write 33 = .ok (.aload_n 0, 1) := by decide +kernel
theorem dX2_write_34 : decode cX2_write 34 = .ok (.aload_n 1, 1) := by decide +kernel
theorem dX2_write_35 : decode cX2_write 35 = .ok (.iload_n 2, 1) := by decide +kernel
theorem dX2_write_36 : decode cX2_write 36 = .ok (.iconst 1, 1) := by decide +kernel
theorem dX2_write_37 : decode cX2_write 37 = .ok (.invokevirtual 49, 3) := by decide +kernel
theorem dX2_write_40 : decode cX2_write 40 = .ok (.invokevirtual 53, 3) := by decide +kernel
theorem dX2_write_43 : decode cX2_write 43 = .ok (.aload_n 0, 1) := by decide +kernel
theorem dX2_write_44 : decode cX2_write 44 = .ok (.ldc 57, 2) := by decide +kernel
theorem dX2_write_46 : decode cX2_write 46 = .ok (.invokevirtual 45, 3) := by decide +kernel
theorem dX2_write_49 : decode cX2_write 49 = .ok (.aload_n 0, 1) := by decide +kernel
theorem dX2_write_50 : decode cX2_write 50 = .ok (.bipush 8, 2) := by decide +kernel
theorem dX2_write_52 : decode cX2_write 52 = .ok (.aload_n 1, 1) := by decide +kernel
theorem dX2_write_53 : decode cX2_write 53 = .ok (.iload_n 2, 1) := by decide +kernel
theorem dX2_write_54 : decode cX2_write 54 = .ok (.iconst 2, 1) := by decide +kernel
theorem dX2_write_55 : decode cX2_write 55 = .ok (.invokevirtual 49, 3) := by decide +kernel
theorem dX2_write_58 : decode cX2_write 58 = .ok (.iadd, 1) := by decide +kernel
theorem dX2_write_59 : decode cX2_write 59 = .ok (.invokevirtual 59, 3) := by decide +kernel
theorem dX2_write_62 : decode cX2_write 62 = .ok (.return_, 1) := by decide +kernel
theorem dX2_write_63 : decode cX2_write 63 = .ok (.aload_n 0, 1) := by decide +kernel
theorem dX2_write_64 : decode cX2_write 64 = .ok (.aload_n 1, 1) := by decide +kernel
theorem dX2_write_65 : decode cX2_write 65 = .ok (.iload_n 2, 1) := by decide +kernel
theorem dX2_write_66 : decode cX2_write 66 = .ok (.invokevirtual 62, 3) := by decide +kernel
theorem dX2_write_69 : decode cX2_write 69 = .ok (.ifCond .eq 8, 3) := by decide +kernel
theorem dX2_write_72 : decode cX2_write 72 = .ok (.ldc 65, 2) := by decide +kernel
theorem dX2_write_74 : decode cX2_write 74 = .ok (.goto 5, 3) := by decide +kernel
theorem dX2_write_77 : decode cX2_write 77 = .ok (.ldc 67, 2) := by decide +kernel
theorem dX2_write_79 : decode cX2_write 79 = .ok (.invokevirtual 45, 3) := by decide +kernel
theorem dX2_write_82 : decode cX2_write 82 = .ok (.aload_n 0, 1) := by decide +kernel
theorem dX2_write_83 : decode cX2_write 83 = .ok (.aload_n 3, 1) := by decide +kernel
theorem dX2_write_84 : decode cX2_write 84 = .ok (.aload_n 1, 1) := by decide +kernel
theorem dX2_write_85 : decode cX2_write 85 = .ok (.iload_n 2, 1) := by decide +kernel
theorem dX2_write_86 : decode cX2_write 86 = .ok (.iconst 3, 1) := by decide +kernel
theorem dX2_write_87 : decode cX2_write 87 = .ok (.invokevirtual 49, 3) := by decide +kernel
theorem dX2_write_90 : decode cX2_write 90 = .ok (.invokevirtual 69, 3) := by decide +kernel
theorem dX2_write_93 : decode cX2_write 93 = .ok (.invokevirtual 35, 3) := by decide +kernel
theorem dX2_write_96 : decode cX2_write 96 = .ok (.return_, 1) := by decide +kernel
theorem dX2_signAt_0 : decode cX2_signAt 0 = .ok (.iload_n 1, 1) := by decide +kernel
theorem dX2_signAt_1 : decode cX2_signAt 1 = .ok (.ifCond .lt 30, 3) := by decide +kernel
theorem dX2_signAt_4 : decode cX2_signAt 4 = .ok (.iload_n 1, 1) := by decide +kernel
theorem dX2_signAt_5 : decode cX2_signAt 5 = .ok (.aload_n 0, 1) := by decide +kernel
theorem dX2_signAt_6 : decode cX2_signAt 6 = .ok (.getfield 25, 3) := by decide +kernel
theorem dX2_signAt_9 : decode cX2_signAt 9 = .ok (.if_icmp .ge 22, 3) := by decide +kernel
theorem dX2_signAt_12 : decode cX2_signAt 12 = .ok (.iload_n 1, 1) := by decide +kernel
theorem dX2_signAt_13 : decode cX2_signAt 13 = .ok (.bipush 32, 2) := by decide +kernel
theorem dX2_signAt_15 : decode cX2_signAt 15 = .ok (.if_icmp .ge 16, 3) := by decide +kernel
theorem dX2_signAt_18 : decode cX2_signAt 18 = .ok (.aload_n 0, 1) := by decide +kernel
theorem dX2_signAt_19 : decode cX2_signAt 19 = .ok (.getfield 11, 3) := by decide +kernel
theorem dX2_signAt_22 : decode cX2_signAt 22 = .ok (.iload_n 1, 1) := by decide +kernel
theorem dX2_signAt_23 : decode cX2_signAt 23 = .ok (.baload, 1) := by decide +kernel
theorem dX2_signAt_24 : decode cX2_signAt 24 = .ok (.sipush 255, 3) := by decide +kernel
theorem dX2_signAt_27 : decode cX2_signAt 27 = .ok (.iand, 1) := by decide +kernel
theorem dX2_signAt_28 : decode cX2_signAt 28 = .ok (.goto 4, 3) := by decide +kernel
theorem dX2_signAt_31 : decode cX2_signAt 31 = .ok (.iconst (-1), 1) := by decide +kernel
theorem dX2_signAt_32 : decode cX2_signAt 32 = .ok (.ireturn, 1) := by decide +kernel
theorem dX2_add_0 : decode cX2_add 0 = .ok (.aload_n 0, 1) := by decide +kernel
theorem dX2_add_1 : decode cX2_add 1 = .ok (.getfield 25, 3) := by decide +kernel
theorem dX2_add_4 : decode cX2_add 4 = .ok (.bipush 32, 2) := by decide +kernel
theorem dX2_add_6 : decode cX2_add 6 = .ok (.if_icmp .ge 24, 3) := by decide +kernel
theorem dX2_add_9 : decode cX2_add 9 = .ok (.aload_n 0, 1) := by decide +kernel
theorem dX2_add_10 : decode cX2_add 10 = .ok (.getfield 11, 3) := by decide +kernel
theorem dX2_add_13 : decode cX2_add 13 = .ok (.aload_n 0, 1) := by decide +kernel
theorem dX2_add_14 : decode cX2_add 14 = .ok (.getfield 25, 3) := by decide +kernel
theorem dX2_add_17 : decode cX2_add 17 = .ok (.iload_n 1, 1) := by decide +kernel
theorem dX2_add_18 : decode cX2_add 18 = .ok (.i2b, 1) := by decide +kernel
theorem dX2_add_19 : decode cX2_add 19 = .ok (.bastore, 1) := by decide +kernel
theorem dX2_add_20 : decode cX2_add 20 = .ok (.aload_n 0, 1) := by decide +kernel
theorem dX2_add_21 : decode cX2_add 21 = .ok (.dup, 1) := by decide +kernel
theorem dX2_add_22 : decode cX2_add 22 = .ok (.getfield 25, 3) := by decide +kernel
theorem dX2_add_25 : decode cX2_add 25 = .ok (.iconst 1, 1) := by decide +kernel
theorem dX2_add_26 : decode cX2_add 26 = .ok (.iadd, 1) := by decide +kernel
theorem dX2_add_27 : decode cX2_add 27 = .ok (.putfield 25, 3) := by decide +kernel
theorem dX2_add_30 : decode cX2_add 30 = .ok (.return_, 1) := by decide +kernel
theorem dX2_addText_0 : decode cX2_addText 0 = .ok (.iconst 0, 1) := by decide +kernel
theorem dX2_addText_1 : decode cX2_addText 1 = .ok (.istore_n 2, 1) := by decide +kernel
theorem dX2_addText_2 : decode cX2_addText 2 = .ok (.iload_n 2, 1) := by decide +kernel
theorem dX2_addText_3 : decode cX2_addText 3 = .ok (.aload_n 1, 1) := by decide +kernel
theorem dX2_addText_4 : decode cX2_addText 4 = .ok (.invokevirtual 72, 3) := by decide +kernel
theorem dX2_addText_7 : decode cX2_addText 7 = .ok (.if_icmp .ge 18, 3) := by decide +kernel
theorem dX2_addText_10 : decode cX2_addText 10 = .ok (.aload_n 0, 1) := by decide +kernel
theorem dX2_addText_11 : decode cX2_addText 11 = .ok (.aload_n 1, 1) := by decide +kernel
theorem dX2_addText_12 : decode cX2_addText 12 = .ok (.iload_n 2, 1) := by decide +kernel
theorem dX2_addText_13 : decode cX2_addText 13 = .ok (.invokevirtual 78, 3) := by decide +kernel
theorem dX2_addText_16 : decode cX2_addText 16 = .ok (.invokevirtual 82, 3) := by decide +kernel
theorem dX2_addText_19 : decode cX2_addText 19 = .ok (.iinc 2 1, 3) := by decide +kernel
theorem dX2_addText_22 : decode cX2_addText 22 = .ok (.goto (-20), 3) := by decide +kernel
theorem dX2_addText_25 : decode cX2_addText 25 = .ok (.return_, 1) := by decide +kernel
theorem dX2_addWord_0 : decode cX2_addWord 0 = .ok (.bipush 35, 2) := by decide +kernel
theorem dX2_addWord_2 : decode cX2_addWord 2 = .ok (.istore_n 3, 1) := by decide +kernel
theorem dX2_addWord_3 : decode cX2_addWord 3 = .ok (.iload_n 3, 1) := by decide +kernel
theorem dX2_addWord_4 : decode cX2_addWord 4 = .ok (.ifCond .lt 32, 3) := by decide +kernel
theorem dX2_addWord_7 : decode cX2_addWord 7 = .ok (.lload_n 1, 1) := by decide +kernel
theorem dX2_addWord_8 : decode cX2_addWord 8 = .ok (.iload_n 3, 1) := by decide +kernel
theorem dX2_addWord_9 : decode cX2_addWord 9 = .ok (.lshr, 1) := by decide +kernel
theorem dX2_addWord_10 : decode cX2_addWord 10 = .ok (.l2i, 1) := by decide +kernel
theorem dX2_addWord_11 : decode cX2_addWord 11 = .ok (.bipush 31, 2) := by decide +kernel
theorem dX2_addWord_13 : decode cX2_addWord 13 = .ok (.iand, 1) := by decide +kernel
theorem dX2_addWord_14 : decode cX2_addWord 14 = .ok (.istore 4, 2) := by decide +kernel
theorem dX2_addWord_16 : decode cX2_addWord 16 = .ok (.iload 4, 2) := by decide +kernel
theorem dX2_addWord_18 : decode cX2_addWord 18 = .ok (.ifCond .eq 12, 3) := by decide +kernel
theorem dX2_addWord_21 : decode cX2_addWord 21 = .ok (.aload_n 0, 1) := by decide +kernel
theorem dX2_addWord_22 : decode cX2_addWord 22 = .ok (.iload 4, 2) := by decide +kernel
theorem dX2_addWord_24 : decode cX2_addWord 24 = .ok (.bipush 96, 2) := by decide +kernel
theorem dX2_addWord_26 : decode cX2_addWord 26 = .ok (.iadd, 1) := by decide +kernel
theorem dX2_addWord_27 : decode cX2_addWord 27 = .ok (.invokevirtual 82, 3) := by decide +kernel
theorem dX2_addWord_30 : decode cX2_addWord 30 = .ok (.iinc 3 (-5), 3) := by decide +kernel
theorem dX2_addWord_33 : decode cX2_addWord 33 = .ok (.goto (-30), 3) := by decide +kernel
theorem dX2_addWord_36 : decode cX2_addWord 36 = .ok (.return_, 1) := by decide +kernel
theorem dX2_addDigits_0 : decode cX2_addDigits 0 = .ok (.iload_n 1, 1) := by decide +kernel
theorem dX2_addDigits_1 : decode cX2_addDigits 1 = .ok (.bipush 10, 2) := by decide +kernel
theorem dX2_addDigits_3 : decode cX2_addDigits 3 = .ok (.if_icmp .lt 14, 3) := by decide +kernel
theorem dX2_addDigits_6 : decode cX2_addDigits 6 = .ok (.aload_n 0, 1) := by decide +kernel
theorem dX2_addDigits_7 : decode cX2_addDigits 7 = .ok (.bipush 48, 2) := by decide +kernel
theorem dX2_addDigits_9 : decode cX2_addDigits 9 = .ok (.iload_n 1, 1) := by decide +kernel
theorem dX2_addDigits_10 : decode cX2_addDigits 10 = .ok (.bipush 10, 2) := by decide +kernel
theorem dX2_addDigits_12 : decode cX2_addDigits 12 = .ok (.idiv, 1) := by decide +kernel
theorem dX2_addDigits_13 : decode cX2_addDigits 13 = .ok (.iadd, 1) := by decide +kernel
theorem dX2_addDigits_14 : decode cX2_addDigits 14 = .ok (.invokevirtual 82, 3) := by decide +kernel
theorem dX2_addDigits_17 : decode cX2_addDigits 17 = .ok (.aload_n 0, 1) := by decide +kernel
theorem dX2_addDigits_18 : decode cX2_addDigits 18 = .ok (.bipush 48, 2) := by decide +kernel
theorem dX2_addDigits_20 : decode cX2_addDigits 20 = .ok (.iload_n 1, 1) := by decide +kernel
theorem dX2_addDigits_21 : decode cX2_addDigits 21 = .ok (.bipush 10, 2) := by decide +kernel
theorem dX2_addDigits_23 : decode cX2_addDigits 23 = .ok (.irem, 1) := by decide +kernel
theorem dX2_addDigits_24 : decode cX2_addDigits 24 = .ok (.iadd, 1) := by decide +kernel
theorem dX2_addDigits_25 : decode cX2_addDigits 25 = .ok (.invokevirtual 82, 3) := by decide +kernel
theorem dX2_addDigits_28 : decode cX2_addDigits 28 = .ok (.return_, 1) := by decide +kernel
theorem dX2_addWay_0 : decode cX2_addWay 0 = .ok (.iload_n 1, 1) := by decide +kernel
theorem dX2_addWay_1 : decode cX2_addWay 1 = .ok (.ifCond .lt 19, 3) := by decide +kernel
theorem dX2_addWay_4 : decode cX2_addWay 4 = .ok (.iload_n 1, 1) := by decide +kernel
theorem dX2_addWay_5 : decode cX2_addWay 5 = .ok (.bipush 29, 2) := by decide +kernel
theorem dX2_addWay_7 : decode cX2_addWay 7 = .ok (.if_icmp .ge 13, 3) := by decide +kernel
theorem dX2_addWay_10 : decode cX2_addWay 10 = .ok (.aload_n 0, 1) := by decide +kernel
theorem dX2_addWay_11 : decode cX2_addWay 11 = .ok (.aload_n 0, 1) := by decide +kernel
theorem dX2_addWay_12 : decode cX2_addWay 12 = .ok (.getfield 15, 3) := by decide +kernel
theorem dX2_addWay_15 : decode cX2_addWay 15 = .ok (.iload_n 1, 1) := by decide +kernel
theorem dX2_addWay_16 : decode cX2_addWay 16 = .ok (.laload, 1) := by decide +kernel
theorem dX2_addWay_17 : decode cX2_addWay 17 = .ok (.invokevirtual 35, 3) := by decide +kernel
theorem dX2_addWay_20 : decode cX2_addWay 20 = .ok (.return_, 1) := by decide +kernel
theorem dX3_init_0 : decode cX3_init 0 = .ok (.aload_n 0, 1) := by decide +kernel
theorem dX3_init_1 : decode cX3_init 1 = .ok (.invokespecial 3, 3) := by decide +kernel
theorem dX3_init_4 : decode cX3_init 4 = .ok (.aload_n 0, 1) := by decide +kernel
theorem dX3_init_5 : decode cX3_init 5 = .ok (.sipush 256, 3) := by decide +kernel
theorem dX3_init_8 : decode cX3_init 8 = .ok (.newarray .boolean, 2) := by decide +kernel
theorem dX3_init_10 : decode cX3_init 10 = .ok (.putfield 11, 3) := by decide +kernel
theorem dX3_init_13 : decode cX3_init 13 = .ok (.aload_n 0, 1) := by decide +kernel
theorem dX3_init_14 : decode cX3_init 14 = .ok (.bipush 8, 2) := by decide +kernel
theorem dX3_init_16 : decode cX3_init 16 = .ok (.newarray .int, 2) := by decide +kernel
theorem dX3_init_18 : decode cX3_init 18 = .ok (.putfield 15, 3) := by decide +kernel
theorem dX3_init_21 : decode cX3_init 21 = .ok (.return_, 1) := by decide +kernel
theorem dX3_greatestSet_0 : decode cX3_greatestSet 0 = .ok (.iconst 0, 1) := by decide +kernel
theorem dX3_greatestSet_1 : decode cX3_greatestSet 1 = .ok (.istore_n 2, 1) := by decide +kernel
theorem dX3_greatestSet_2 : decode cX3_greatestSet 2 = .ok (.iload_n 2, 1) := by decide +kernel
theorem dX3_greatestSet_3 : decode cX3_greatestSet 3 = .ok (.bipush 8, 2) := by decide +kernel
theorem dX3_greatestSet_5 : decode cX3_greatestSet 5 = .ok (.if_icmp .ge 20, 3) := by decide +kernel
theorem dX3_greatestSet_8 : decode cX3_greatestSet 8 = .ok (.aload_n 0, 1) := by decide +kernel
theorem dX3_greatestSet_9 : decode cX3_greatestSet 9 = .ok (.getfield 15, 3) := by decide +kernel
theorem dX3_greatestSet_12 : decode cX3_greatestSet 12 = .ok (.iload_n 2, 1) := by decide +kernel
theorem dX3_greatestSet_13 : decode cX3_greatestSet 13 = .ok (.aload_n 1, 1) := by decide +kernel
theorem dX3_greatestSet_14 : decode cX3_greatestSet 14 = .ok (.iload_n 2, 1) := by decide +kernel
theorem dX3_greatestSet_15 : decode cX3_greatestSet 15 = .ok (.invokevirtual 19, 3) := by decide +kernel
theorem dX3_greatestSet_18 : decode cX3_greatestSet 18 = .ok (.iastore, 1) := by decide +kernel
theorem dX3_greatestSet_19 : decode cX3_greatestSet 19 = .ok (.iinc 2 1, 3) := by decide +kernel
theorem dX3_greatestSet_22 : decode cX3_greatestSet 22 = .ok (.goto (-20), 3) := by decide +kernel
theorem dX3_greatestSet_25 : decode cX3_greatestSet 25 = .ok (.iconst 0, 1) := by decide +kernel
theorem dX3_greatestSet_26 : decode cX3_greatestSet 26 = .ok (.istore_n 2, 1) := by decide +kernel
theorem dX3_greatestSet_27 : decode cX3_greatestSet 27 = .ok (.aload_n 0, 1) := by decide +kernel
theorem dX3_greatestSet_28 : decode cX3_greatestSet 28 = .ok (.getfield 11, 3) := by decide +kernel
theorem dX3_greatestSet_31 : decode cX3_greatestSet 31 = .ok (.iconst 0, 1) := by decide +kernel
theorem dX3_greatestSet_32 : decode cX3_greatestSet 32 = .ok (.iconst 1, 1) := by decide +kernel
theorem dX3_greatestSet_33 : decode cX3_greatestSet 33 = .ok (.bastore, 1) := by decide +kernel
theorem dX3_greatestSet_34 : decode cX3_greatestSet 34 = .ok (.iconst 1, 1) := by decide +kernel
theorem dX3_greatestSet_35 : decode cX3_greatestSet 35 = .ok (.istore_n 3, 1) := by decide +kernel
theorem dX3_greatestSet_36 : decode cX3_greatestSet 36 = .ok (.iload_n 3, 1) := by decide +kernel
theorem dX3_greatestSet_37 : decode cX3_greatestSet 37 = .ok (.sipush 256, 3) := by decide +kernel
theorem dX3_greatestSet_40 : decode cX3_greatestSet 40 = .ok (.if_icmp .ge 42, 3) := by decide +kernel
theorem dX3_greatestSet_43 : decode cX3_greatestSet 43 = .ok (.aload_n 0, 1) := by decide +kernel
theorem dX3_greatestSet_44 : decode cX3_greatestSet 44 = .ok (.getfield 11, 3) := by decide +kernel
theorem dX3_greatestSet_47 : decode cX3_greatestSet 47 = .ok (.iload_n 3, 1) := by decide +kernel
theorem dX3_greatestSet_48 : decode cX3_greatestSet 48 = .ok (.aload_n 0, 1) := by decide +kernel
theorem dX3_greatestSet_49 : decode cX3_greatestSet 49 = .ok (.iload_n 3, 1) := by decide +kernel
theorem dX3_greatestSet_50 : decode cX3_greatestSet 50 = .ok (.invokevirtual 25, 3) := by decide +kernel
theorem dX3_greatestSet_53 : decode cX3_greatestSet 53 = .ok (.bastore, 1) := by decide +kernel
theorem dX3_greatestSet_54 : decode cX3_greatestSet 54 = .ok (.aload_n 0, 1) := by decide +kernel
theorem dX3_greatestSet_55 : decode cX3_greatestSet 55 = .ok (.getfield 11, 3) := by decide +kernel
theorem dX3_greatestSet_58 : decode cX3_greatestSet 58 = .ok (.iload_n 3, 1) := by decide +kernel
theorem dX3_greatestSet_59 : decode cX3_greatestSet 59 = .ok (.baload, 1) := by decide +kernel
theorem dX3_greatestSet_60 : decode cX3_greatestSet 60 = .ok (.ifCond .eq 16, 3) := by decide +kernel
theorem dX3_greatestSet_63 : decode cX3_greatestSet 63 = .ok (.iload_n 3, 1) := by decide +kernel
theorem dX3_greatestSet_64 : decode cX3_greatestSet 64 = .ok (.invokestatic 29, 3) := by decide +kernel
theorem dX3_greatestSet_67 : decode cX3_greatestSet 67 = .ok (.iload_n 2, 1) := by decide +kernel
theorem dX3_greatestSet_68 : decode cX3_greatestSet 68 = .ok (.invokestatic 29, 3) := by decide +kernel
theorem dX3_greatestSet_71 : decode cX3_greatestSet 71 = .ok (.if_icmp .le 5, 3) := by decide +kernel
theorem dX3_greatestSet_74 : decode cX3_greatestSet 74 = .ok (.iload_n 3, 1) := by decide +kernel
theorem dX3_greatestSet_75 : decode cX3_greatestSet 75 = .ok (.istore_n 2, 1) := by decide +kernel
theorem dX3_greatestSet_76 : decode cX3_greatestSet 76 = .ok (.iinc 3 1, 3) := by decide +kernel
theorem dX3_greatestSet_79 : decode cX3_greatestSet 79 = .ok (.goto (-43), 3) := by decide +kernel
theorem dX3_greatestSet_82 : decode cX3_greatestSet 82 = .ok (.iload_n 2, 1) := by decide +kernel
theorem dX3_greatestSet_83 : decode cX3_greatestSet 83 = .ok (.ireturn, 1) := by decide +kernel
theorem dX3_canBeOpen_0 : decode cX3_canBeOpen 0 = .ok (.iconst 0, 1) := by decide +kernel
theorem dX3_canBeOpen_1 : decode cX3_canBeOpen 1 = .ok (.istore_n 2, 1) := by decide +kernel
theorem dX3_canBeOpen_2 : decode cX3_canBeOpen 2 = .ok (.iconst 0, 1) := by decide +kernel
theorem dX3_canBeOpen_3 : decode cX3_canBeOpen 3 = .ok (.istore_n 3, 1) := by decide +kernel
theorem dX3_canBeOpen_4 : decode cX3_canBeOpen 4 = .ok (.iload_n 3, 1) := by decide +kernel
theorem dX3_canBeOpen_5 : decode cX3_canBeOpen 5 = .ok (.bipush 8, 2) := by decide +kernel
theorem dX3_canBeOpen_7 : decode cX3_canBeOpen 7 = .ok (.if_icmp .ge 60, 3) := by decide +kernel
theorem dX3_canBeOpen_10 : decode cX3_canBeOpen 10 = .ok (.iload_n 1, 1) := by decide +kernel
theorem dX3_canBeOpen_11 : decode cX3_canBeOpen 11 = .ok (.iload_n 3, 1) := by decide +kernel
theorem dX3_canBeOpen_12 : decode cX3_canBeOpen 12 = .ok (.invokestatic 34, 3) := by decide +kernel
theorem dX3_canBeOpen_15 : decode cX3_canBeOpen 15 = .ok (.ifCond .eq 46, 3) := by decide +kernel
theorem dX3_canBeOpen_18 : decode cX3_canBeOpen 18 = .ok (.iload_n 1, 1) := by decide +kernel
theorem dX3_canBeOpen_19 : decode cX3_canBeOpen 19 = .ok (.iconst 1, 1) := by decide +kernel
theorem dX3_canBeOpen_20 : decode cX3_canBeOpen 20 = .ok (.iload_n 3, 1) := by decide +kernel
theorem dX3_canBeOpen_21 : decode cX3_canBeOpen 21 = .ok (.ishl, 1) := by decide +kernel
theorem dX3_canBeOpen_22 : decode cX3_canBeOpen 22 = .ok (.iconst (-1), 1) := by decide +kernel
theorem dX3_canBeOpen_23 : decode cX3_canBeOpen 23 = .ok (.ixor, 1) := by decide +kernel
theorem dX3_canBeOpen_24 : decode cX3_canBeOpen 24 = .ok (.iand, 1) := by decide +kernel
theorem dX3_canBeOpen_25 : decode cX3_canBeOpen 25 = .ok (.istore 4, 2) := by decide +kernel
theorem dX3_canBeOpen_27 : decode cX3_canBeOpen 27 = .ok (.iload 4, 2) := by decide +kernel
theorem dX3_canBeOpen_29 : decode cX3_canBeOpen 29 = .ok (.ifCond .lt 21, 3) := by decide +kernel
theorem dX3_canBeOpen_32 : decode cX3_canBeOpen 32 = .ok (.iload 4, 2) := by decide +kernel
theorem dX3_canBeOpen_34 : decode cX3_canBeOpen 34 = .ok (.sipush 256, 3) := by decide +kernel
theorem dX3_canBeOpen_37 : decode cX3_canBeOpen 37 = .ok (.if_icmp .ge 13, 3) := by decide +kernel
theorem dX3_canBeOpen_40 : decode cX3_canBeOpen 40 = .ok (.aload_n 0, 1) := by decide +kernel
theorem dX3_canBeOpen_41 : decode cX3_canBeOpen 41 = .ok (.getfield 11, 3) := by decide +kernel
theorem dX3_canBeOpen_44 : decode cX3_canBeOpen 44 = .ok (.iload 4, 2) := by decide +kernel
theorem dX3_canBeOpen_46 : decode cX3_canBeOpen 46 = .ok (.baload, 1) := by decide +kernel
theorem dX3_canBeOpen_47 : decode cX3_canBeOpen 47 = .ok (.ifCond .ne 5, 3) := by decide +kernel
theorem dX3_canBeOpen_50 : decode cX3_canBeOpen 50 = .ok (.iconst 0, 1) := by decide +kernel
theorem dX3_canBeOpen_51 : decode cX3_canBeOpen 51 = .ok (.ireturn, 1) := by decide +kernel
theorem dX3_canBeOpen_52 : decode cX3_canBeOpen 52 = .ok (.iload_n 2, 1) := by decide +kernel
theorem dX3_canBeOpen_53 : decode cX3_canBeOpen 53 = .ok (.aload_n 0, 1) := by decide +kernel
theorem dX3_canBeOpen_54 : decode cX3_canBeOpen 54 = .ok (.getfield 15, 3) := by decide +kernel
theorem dX3_canBeOpen_57 : decode cX3_canBeOpen 57 = .ok (.iload_n 3, 1) := by decide +kernel
theorem dX3_canBeOpen_58 : decode cX3_canBeOpen 58 = .ok (.iaload, 1) := by decide +kernel
theorem dX3_canBeOpen_59 : decode cX3_canBeOpen 59 = .ok (.ior, 1) := by decide +kernel
theorem dX3_canBeOpen_60 : decode cX3_canBeOpen 60 = .ok (.istore_n 2, 1) := by decide +kernel
theorem dX3_canBeOpen_61 : decode cX3_canBeOpen 61 = .ok (.iinc 3 1, 3) := by decide +kernel
theorem dX3_canBeOpen_64 : decode cX3_canBeOpen 64 = .ok (.goto (-60), 3) := by decide +kernel
theorem dX3_canBeOpen_67 : decode cX3_canBeOpen 67 = .ok (.iload_n 2, 1) := by decide +kernel
theorem dX3_canBeOpen_68 : decode cX3_canBeOpen 68 = .ok (.invokestatic 29, 3) := by decide +kernel
theorem dX3_canBeOpen_71 : decode cX3_canBeOpen 71 = .ok (.iload_n 1, 1) := by decide +kernel
theorem dX3_canBeOpen_72 : decode cX3_canBeOpen 72 = .ok (.invokestatic 29, 3) := by decide +kernel
theorem dX3_canBeOpen_75 : decode cX3_canBeOpen 75 = .ok (.if_icmp .lt 7, 3) := by decide +kernel
theorem dX3_canBeOpen_78 : decode cX3_canBeOpen 78 = .ok (.iconst 1, 1) := by decide +kernel
theorem dX3_canBeOpen_79 : decode cX3_canBeOpen 79 = .ok (.goto 4, 3) := by decide +kernel
theorem dX3_canBeOpen_82 : decode cX3_canBeOpen 82 = .ok (.iconst 0, 1) := by decide +kernel
theorem dX3_canBeOpen_83 : decode cX3_canBeOpen 83 = .ok (.ireturn, 1) := by decide +kernel
theorem dX4_init_0 : decode cX4_init 0 = .ok (.aload_n 0, 1) := by decide +kernel
theorem dX4_init_1 : decode cX4_init 1 = .ok (.invokespecial 3, 3) := by decide +kernel
theorem dX4_init_4 : decode cX4_init 4 = .ok (.aload_n 0, 1) := by decide +kernel
theorem dX4_init_5 : decode cX4_init 5 = .ok (.bipush 9, 2) := by decide +kernel
theorem dX4_init_7 : decode cX4_init 7 = .ok (.anewarray 11, 3) := by decide +kernel
theorem dX4_init_10 : decode cX4_init 10 = .ok (.putfield 13, 3) := by decide +kernel
theorem dX4_init_13 : decode cX4_init 13 = .ok (.iconst 0, 1) := by decide +kernel
theorem dX4_init_14 : decode cX4_init 14 = .ok (.istore_n 2, 1) := by decide +kernel
theorem dX4_init_15 : decode cX4_init 15 = .ok (.iload_n 2, 1) := by decide +kernel
theorem dX4_init_16 : decode cX4_init 16 = .ok (.bipush 9, 2) := by decide +kernel
theorem dX4_init_18 : decode cX4_init 18 = .ok (.if_icmp .ge 23, 3) := by decide +kernel
theorem dX4_init_21 : decode cX4_init 21 = .ok (.aload_n 0, 1) := by decide +kernel
theorem dX4_init_22 : decode cX4_init 22 = .ok (.getfield 13, 3) := by decide +kernel
theorem dX4_init_25 : decode cX4_init 25 = .ok (.iload_n 2, 1) := by decide +kernel
theorem dX4_init_26 : decode cX4_init 26 = .ok (.new 11, 3) := by decide +kernel
theorem dX4_init_29 : decode cX4_init 29 = .ok (.dup, 1) := by decide +kernel
theorem dX4_init_30 : decode cX4_init 30 = .ok (.aload_n 1, 1) := by decide +kernel
theorem dX4_init_31 : decode cX4_init 31 = .ok (.invokespecial 17, 3) := by decide +kernel
theorem dX4_init_34 : decode cX4_init 34 = .ok (.aastore, 1) := by decide +kernel
theorem dX4_init_35 : decode cX4_init 35 = .ok (.iinc 2 1, 3) := by decide +kernel
theorem dX4_init_38 : decode cX4_init 38 = .ok (.goto (-23), 3) := by decide +kernel
theorem dX4_init_41 : decode cX4_init 41 = .ok (.return_, 1) := by decide +kernel
theorem dX4_note_0 : decode cX4_note 0 = .ok (.aload_n 0, 1) := by decide +kernel
theorem dX4_note_1 : decode cX4_note 1 = .ok (.aload_n 0, 1) := by decide +kernel
theorem dX4_note_2 : decode cX4_note 2 = .ok (.getfield 20, 3) := by decide +kernel
theorem dX4_note_5 : decode cX4_note 5 = .ok (.invokevirtual 24, 3) := by decide +kernel
theorem dX4_note_8 : decode cX4_note 8 = .ok (.astore_n 2, 1) := by decide +kernel
theorem dX4_note_9 : decode cX4_note 9 = .ok (.aload_n 2, 1) := by decide +kernel
theorem dX4_note_10 : decode cX4_note 10 = .ok (.ifnull 8, 3) := by decide +kernel
theorem dX4_note_13 : decode cX4_note 13 = .ok (.aload_n 2, 1) := by decide +kernel
theorem dX4_note_14 : decode cX4_note 14 = .ok (.aload_n 1, 1) := by decide +kernel
theorem dX4_note_15 : decode cX4_note 15 = .ok (.invokevirtual 28, 3) := by decide +kernel
theorem dX4_note_18 : decode cX4_note 18 = .ok (.return_, 1) := by decide +kernel
theorem dX4_roomBehind_0 : decode cX4_roomBehind 0 = .ok (.aload_n 0, 1) := by decide +kernel
theorem dX4_roomBehind_1 : decode cX4_roomBehind 1 = .ok (.getfield 32, 3) := by decide +kernel
theorem dX4_roomBehind_4 : decode cX4_roomBehind 4 = .ok (.iload_n 1, 1) := by decide +kernel
theorem dX4_roomBehind_5 : decode cX4_roomBehind 5 = .ok (.iadd, 1) := by decide +kernel
theorem dX4_roomBehind_6 : decode cX4_roomBehind 6 = .ok (.bipush 9, 2) := by decide +kernel
theorem dX4_roomBehind_8 : decode cX4_roomBehind 8 = .ok (.irem, 1) := by decide +kernel
theorem dX4_roomBehind_9 : decode cX4_roomBehind 9 = .ok (.istore_n 2, 1) := by decide +kernel
theorem dX4_roomBehind_10 : decode cX4_roomBehind 10 = .ok (.iload_n 2, 1) := by decide +kernel
theorem dX4_roomBehind_11 : decode cX4_roomBehind 11 = .ok (.ifCond .lt 18, 3) := by decide +kernel
theorem dX4_roomBehind_14 : decode cX4_roomBehind 14 = .ok (.iload_n 2, 1) := by decide +kernel
theorem dX4_roomBehind_15 : decode cX4_roomBehind 15 = .ok (.bipush 9, 2) := by decide +kernel
theorem dX4_roomBehind_17 : decode cX4_roomBehind 17 = .ok (.if_icmp .ge 12, 3) := by decide +kernel
theorem dX4_roomBehind_20 : decode cX4_roomBehind 20 = .ok (.aload_n 0, 1) := by decide +kernel
theorem dX4_roomBehind_21 : decode cX4_roomBehind 21 = .ok (.getfield 13, 3) := by decide +kernel
theorem dX4_roomBehind_24 : decode cX4_roomBehind 24 = .ok (.iload_n 2, 1) := by decide +kernel
theorem dX4_roomBehind_25 : decode cX4_roomBehind 25 = .ok (.aaload, 1) := by decide +kernel
theorem dX4_roomBehind_26 : decode cX4_roomBehind 26 = .ok (.goto 4, 3) := by decide +kernel
theorem dX4_roomBehind_29 : decode cX4_roomBehind 29 = .ok (.aconst_null, 1) := by decide +kernel
theorem dX4_roomBehind_30 : decode cX4_roomBehind 30 = .ok (.areturn, 1) := by decide +kernel
theorem dX4_keepIfDone_0 : decode cX4_keepIfDone 0 = .ok (.iload_n 1, 1) := by decide +kernel
theorem dX4_keepIfDone_1 : decode cX4_keepIfDone 1 = .ok (.ifCond .ne 7, 3) := by decide +kernel
theorem dX4_keepIfDone_4 : decode cX4_keepIfDone 4 = .ok (.aload_n 0, 1) := by decide +kernel
theorem dX4_keepIfDone_5 : decode cX4_keepIfDone 5 = .ok (.invokevirtual 35, 3) := by decide +kernel
theorem dX4_keepIfDone_8 : decode cX4_keepIfDone 8 = .ok (.iload_n 1, 1) := by decide +kernel
theorem dX4_keepIfDone_9 : decode cX4_keepIfDone 9 = .ok (.ireturn, 1) := by decide +kernel
theorem dX4_keepIfAny_0 : decode cX4_keepIfAny 0 = .ok (.iload_n 1, 1) := by decide +kernel
theorem dX4_keepIfAny_1 : decode cX4_keepIfAny 1 = .ok (.ifCond .le 7, 3) := by decide +kernel
theorem dX4_keepIfAny_4 : decode cX4_keepIfAny 4 = .ok (.aload_n 0, 1) := by decide +kernel
theorem dX4_keepIfAny_5 : decode cX4_keepIfAny 5 = .ok (.invokevirtual 35, 3) := by decide +kernel
theorem dX4_keepIfAny_8 : decode cX4_keepIfAny 8 = .ok (.iload_n 1, 1) := by decide +kernel
theorem dX4_keepIfAny_9 : decode cX4_keepIfAny 9 = .ok (.ireturn, 1) := by decide +kernel
theorem dX4_keep_0 : decode cX4_keep 0 = .ok (.aload_n 0, 1) := by decide +kernel
theorem dX4_keep_1 : decode cX4_keep 1 = .ok (.getfield 20, 3) := by decide +kernel
theorem dX4_keep_4 : decode cX4_keep 4 = .ok (.bipush 8, 2) := by decide +kernel
theorem dX4_keep_6 : decode cX4_keep 6 = .ok (.if_icmp .ge 16, 3) := by decide +kernel
theorem dX4_keep_9 : decode cX4_keep 9 = .ok (.aload_n 0, 1) := by decide +kernel
theorem dX4_keep_10 : decode cX4_keep 10 = .ok (.dup, 1) := by decide +kernel
theorem dX4_keep_11 : decode cX4_keep 11 = .ok (.getfield 20, 3) := by decide +kernel
theorem dX4_keep_14 : decode cX4_keep 14 = .ok (.iconst 1, 1) := by decide +kernel
theorem dX4_keep_15 : decode cX4_keep 15 = .ok (.iadd, 1) := by decide +kernel
theorem dX4_keep_16 : decode cX4_keep 16 = .ok (.putfield 20, 3) := by decide +kernel
theorem dX4_keep_19 : decode cX4_keep 19 = .ok (.goto 16, 3) := by decide +kernel
theorem dX4_keep_22 : decode cX4_keep 22 = .ok (.aload_n 0, 1) := by decide +kernel
theorem dX4_keep_23 : decode cX4_keep 23 = .ok (.aload_n 0, 1) := by decide +kernel
theorem dX4_keep_24 : decode cX4_keep 24 = .ok (.getfield 32, 3) := by decide +kernel
theorem dX4_keep_27 : decode cX4_keep 27 = .ok (.iconst 1, 1) := by decide +kernel
theorem dX4_keep_28 : decode cX4_keep 28 = .ok (.iadd, 1) := by decide +kernel
theorem dX4_keep_29 : decode cX4_keep 29 = .ok (.bipush 9, 2) := by decide +kernel
theorem dX4_keep_31 : decode cX4_keep 31 = .ok (.irem, 1) := by decide +kernel
theorem dX4_keep_32 : decode cX4_keep 32 = .ok (.putfield 32, 3) := by decide +kernel
theorem dX4_keep_35 : decode cX4_keep 35 = .ok (.return_, 1) := by decide +kernel
theorem dX4_bringBack_0 : decode cX4_bringBack 0 = .ok (.aload_n 0, 1) := by decide +kernel
theorem dX4_bringBack_1 : decode cX4_bringBack 1 = .ok (.aload_n 0, 1) := by decide +kernel
theorem dX4_bringBack_2 : decode cX4_bringBack 2 = .ok (.getfield 20, 3) := by decide +kernel
theorem dX4_bringBack_5 : decode cX4_bringBack 5 = .ok (.iconst 1, 1) := by decide +kernel
theorem dX4_bringBack_6 : decode cX4_bringBack 6 = .ok (.isub, 1) := by decide +kernel
theorem dX4_bringBack_7 : decode cX4_bringBack 7 = .ok (.invokevirtual 24, 3) := by decide +kernel
theorem dX4_bringBack_10 : decode cX4_bringBack 10 = .ok (.astore_n 2, 1) := by decide +kernel
theorem dX4_bringBack_11 : decode cX4_bringBack 11 = .ok (.aload_n 0, 1) := by decide +kernel
theorem dX4_bringBack_12 : decode cX4_bringBack 12 = .ok (.getfield 20, 3) := by decide +kernel
theorem dX4_bringBack_15 : decode cX4_bringBack 15 = .ok (.iconst 1, 1) := by decide +kernel
theorem dX4_bringBack_16 : decode cX4_bringBack 16 = .ok (.if_icmp .lt 7, 3) := by decide +kernel
theorem dX4_bringBack_19 : decode cX4_bringBack 19 = .ok (.aload_n 2, 1) := by decide +kernel
theorem dX4_bringBack_20 : decode cX4_bringBack 20 = .ok (.ifnonnull 5, 3) := by decide +kernel
theorem dX4_bringBack_23 : decode cX4_bringBack 23 = .ok (.iconst (-1), 1) := by decide +kernel
theorem dX4_bringBack_24 : decode cX4_bringBack 24 = .ok (.ireturn, 1) := by decide +kernel
theorem dX4_bringBack_25 : decode cX4_bringBack 25 = .ok (.aload_n 0, 1) := by decide +kernel
theorem dX4_bringBack_26 : decode cX4_bringBack 26 = .ok (.dup, 1) := by decide +kernel
theorem dX4_bringBack_27 : decode cX4_bringBack 27 = .ok (.getfield 20, 3) := by decide +kernel
theorem dX4_bringBack_30 : decode cX4_bringBack 30 = .ok (.iconst 1, 1) := by decide +kernel
theorem dX4_bringBack_31 : decode cX4_bringBack 31 = .ok (.isub, 1) := by decide +kernel
theorem dX4_bringBack_32 : decode cX4_bringBack 32 = .ok (.putfield 20, 3) := by decide +kernel
theorem dX4_bringBack_35 : decode cX4_bringBack 35 = .ok (.aload_n 1, 1) := by decide +kernel
theorem dX4_bringBack_36 : decode cX4_bringBack 36 = .ok (.aload_n 2, 1) := by decide +kernel
theorem dX4_bringBack_37 : decode cX4_bringBack 37 = .ok (.invokevirtual 28, 3) := by decide +kernel
theorem dX4_bringBack_40 : decode cX4_bringBack 40 = .ok (.aload_n 0, 1) := by decide +kernel
theorem dX4_bringBack_41 : decode cX4_bringBack 41 = .ok (.getfield 20, 3) := by decide +kernel
theorem dX4_bringBack_44 : decode cX4_bringBack 44 = .ok (.ireturn, 1) := by decide +kernel
theorem dX4_forget_0 : decode cX4_forget 0 = .ok (.aload_n 0, 1) := by decide +kernel
theorem dX4_forget_1 : decode cX4_forget 1 = .ok (.iconst 0, 1) := by decide +kernel
theorem dX4_forget_2 : decode cX4_forget 2 = .ok (.putfield 20, 3) := by decide +kernel
theorem dX4_forget_5 : decode cX4_forget 5 = .ok (.return_, 1) := by decide +kernel
theorem dX5_init_0 : decode cX5_init 0 = .ok (.aload_n 0, 1) := by decide +kernel
theorem dX5_init_1 : decode cX5_init 1 = .ok (.invokespecial 3, 3) := by decide +kernel
theorem dX5_init_4 : decode cX5_init 4 = .ok (.aload_n 0, 1) := by decide +kernel
theorem dX5_init_5 : decode cX5_init 5 = .ok (.bipush 10, 2) := by decide +kernel
theorem dX5_init_7 : decode cX5_init 7 = .ok (.putfield 9, 3) := by decide +kernel
theorem dX5_init_10 : decode cX5_init 10 = .ok (.aload_n 0, 1) := by decide +kernel
theorem dX5_init_11 : decode cX5_init 11 = .ok (.iconst 2, 1) := by decide +kernel
theorem dX5_init_12 : decode cX5_init 12 = .ok (.putfield 15, 3) := by decide +kernel
theorem dX5_init_15 : decode cX5_init 15 = .ok (.aload_n 0, 1) := by decide +kernel
theorem dX5_init_16 : decode cX5_init 16 = .ok (.iconst 3, 1) := by decide +kernel
theorem dX5_init_17 : decode cX5_init 17 = .ok (.putfield 18, 3) := by decide +kernel
theorem dX5_init_20 : decode cX5_init 20 = .ok (.aload_n 0, 1) := by decide +kernel
theorem dX5_init_21 : decode cX5_init 21 = .ok (.bipush 6, 2) := by decide +kernel
theorem dX5_init_23 : decode cX5_init 23 = .ok (.newarray .int, 2) := by decide +kernel
theorem dX5_init_25 : decode cX5_init 25 = .ok (.putfield 21, 3) := by decide +kernel
theorem dX5_init_28 : decode cX5_init 28 = .ok (.aload_n 0, 1) := by decide +kernel
theorem dX5_init_29 : decode cX5_init 29 = .ok (.bipush 6, 2) := by decide +kernel
theorem dX5_init_31 : decode cX5_init 31 = .ok (.newarray .int, 2) := by decide +kernel
theorem dX5_init_33 : decode cX5_init 33 = .ok (.putfield 25, 3) := by decide +kernel
theorem dX5_init_36 : decode cX5_init 36 = .ok (.aload_n 0, 1) := by decide +kernel
theorem dX5_init_37 : decode cX5_init 37 = .ok (.bipush 6, 2) := by decide +kernel
theorem dX5_init_39 : decode cX5_init 39 = .ok (.newarray .long, 2) := by decide +kernel
theorem dX5_init_41 : decode cX5_init 41 = .ok (.putfield 28, 3) := by decide +kernel
theorem dX5_init_44 : decode cX5_init 44 = .ok (.aload_n 0, 1) := by decide +kernel
theorem dX5_init_45 : decode cX5_init 45 = .ok (.bipush 8, 2) := by decide +kernel
theorem dX5_init_47 : decode cX5_init 47 = .ok (.newarray .int, 2) := by decide +kernel
theorem dX5_init_49 : decode cX5_init 49 = .ok (.putfield 32, 3) := by decide +kernel
theorem dX5_init_52 : decode cX5_init 52 = .ok (.aload_n 0, 1) := by decide +kernel
theorem dX5_init_53 : decode cX5_init 53 = .ok (.bipush 8, 2) := by decide +kernel
theorem dX5_init_55 : decode cX5_init 55 = .ok (.newarray .int, 2) := by decide +kernel
theorem dX5_init_57 : decode cX5_init 57 = .ok (.putfield 35, 3) := by decide +kernel
theorem dX5_init_60 : decode cX5_init 60 = .ok (.aload_n 0, 1) := by decide +kernel
theorem dX5_init_61 : decode cX5_init 61 = .ok (.bipush 8, 2) := by decide +kernel
theorem dX5_init_63 : decode cX5_init 63 = .ok (.newarray .long, 2) := by decide +kernel
theorem dX5_init_65 : decode cX5_init 65 = .ok (.putfield 38, 3) := by decide +kernel
theorem dX5_init_68 : decode cX5_init 68 = .ok (.return_, 1) := by decide +kernel
theorem dX5_clear_0 : decode cX5_clear 0 = .ok (.aload_n 0, 1) := by decide +kernel
theorem dX5_clear_1 : decode cX5_clear 1 = .ok (.bipush 10, 2) := by decide +kernel
theorem dX5_clear_3 : decode cX5_clear 3 = .ok (.putfield 9, 3) := by decide +kernel
theorem dX5_clear_6 : decode cX5_clear 6 = .ok (.aload_n 0, 1) := by decide +kernel
theorem dX5_clear_7 : decode cX5_clear 7 = .ok (.iconst 2, 1) := by decide +kernel
theorem dX5_clear_8 : decode cX5_clear 8 = .ok (.putfield 15, 3) := by decide +kernel
theorem dX5_clear_11 : decode cX5_clear 11 = .ok (.aload_n 0, 1) := by decide +kernel
theorem dX5_clear_12 : decode cX5_clear 12 = .ok (.iconst 3, 1) := by decide +kernel
theorem dX5_clear_13 : decode cX5_clear 13 = .ok (.putfield 18, 3) := by decide +kernel
theorem dX5_clear_16 : decode cX5_clear 16 = .ok (.aload_n 0, 1) := by decide +kernel
theorem dX5_clear_17 : decode cX5_clear 17 = .ok (.iconst 0, 1) := by decide +kernel
theorem dX5_clear_18 : decode cX5_clear 18 = .ok (.putfield 41, 3) := by decide +kernel
theorem dX5_clear_21 : decode cX5_clear 21 = .ok (.aload_n 0, 1) := by decide +kernel
theorem dX5_clear_22 : decode cX5_clear 22 = .ok (.iconst 0, 1) := by decide +kernel
theorem dX5_clear_23 : decode cX5_clear 23 = .ok (.putfield 44, 3) := by decide +kernel
theorem dX5_clear_26 : decode cX5_clear 26 = .ok (.return_, 1) := by decide +kernel
theorem dX5_copyFrom_0 : decode cX5_copyFrom 0 = .ok (.aload_n 0, 1) := by decide +kernel
theorem dX5_copyFrom_1 : decode cX5_copyFrom 1 = .ok (.aload_n 1, 1) := by decide +kernel
theorem dX5_copyFrom_2 : decode cX5_copyFrom 2 = .ok (.getfield 9, 3) := by decide +kernel
theorem dX5_copyFrom_5 : decode cX5_copyFrom 5 = .ok (.putfield 9, 3) := by decide +kernel
theorem dX5_copyFrom_8 : decode cX5_copyFrom 8 = .ok (.aload_n 0, 1) := by decide +kernel
theorem dX5_copyFrom_9 : decode cX5_copyFrom 9 = .ok (.aload_n 1, 1) := by decide +kernel
theorem dX5_copyFrom_10 : decode cX5_copyFrom 10 = .ok (.getfield 15, 3) := by decide +kernel
theorem dX5_copyFrom_13 : decode cX5_copyFrom 13 = .ok (.putfield 15, 3) := by decide +kernel
theorem dX5_copyFrom_16 : decode cX5_copyFrom 16 = .ok (.aload_n 0, 1) := by decide +kernel
theorem dX5_copyFrom_17 : decode cX5_copyFrom 17 = .ok (.aload_n 1, 1) := by decide +kernel
theorem dX5_copyFrom_18 : decode cX5_copyFrom 18 = .ok (.getfield 18, 3) := by decide +kernel
theorem dX5_copyFrom_21 : decode cX5_copyFrom 21 = .ok (.putfield 18, 3) := by decide +kernel
theorem dX5_copyFrom_24 : decode cX5_copyFrom 24 = .ok (.aload_n 0, 1) := by decide +kernel
theorem dX5_copyFrom_25 : decode cX5_copyFrom 25 = .ok (.aload_n 1, 1) := by decide +kernel
theorem dX5_copyFrom_26 : decode cX5_copyFrom 26 = .ok (.getfield 41, 3) := by decide +kernel
theorem dX5_copyFrom_29 : decode cX5_copyFrom 29 = .ok (.putfield 41, 3) := by decide +kernel
theorem dX5_copyFrom_32 : decode cX5_copyFrom 32 = .ok (.aload_n 0, 1) := by decide +kernel
theorem dX5_copyFrom_33 : decode cX5_copyFrom 33 = .ok (.aload_n 1, 1) := by decide +kernel
theorem dX5_copyFrom_34 : decode cX5_copyFrom 34 = .ok (.getfield 44, 3) := by decide +kernel
theorem dX5_copyFrom_37 : decode cX5_copyFrom 37 = .ok (.putfield 44, 3) := by decide +kernel
theorem dX5_copyFrom_40 : decode cX5_copyFrom 40 = .ok (.aload_n 1, 1) := by decide +kernel
theorem dX5_copyFrom_41 : decode cX5_copyFrom 41 = .ok (.getfield 21, 3) := by decide +kernel
theorem dX5_copyFrom_44 : decode cX5_copyFrom 44 = .ok (.iconst 0, 1) := by decide +kernel
theorem dX5_copyFrom_45 : decode cX5_copyFrom 45 = .ok (.aload_n 0, 1) := by decide +kernel
theorem dX5_copyFrom_46 : decode cX5_copyFrom 46 = .ok (.getfield 21, 3) := by decide +kernel
theorem dX5_copyFrom_49 : decode cX5_copyFrom 49 = .ok (.iconst 0, 1) := by decide +kernel
theorem dX5_copyFrom_50 : decode cX5_copyFrom 50 = .ok (.bipush 6, 2) := by decide +kernel
theorem dX5_copyFrom_52 : decode cX5_copyFrom 52 = .ok (.invokestatic 47, 3) := by decide +kernel
theorem dX5_copyFrom_55 : decode cX5_copyFrom 55 = .ok (.aload_n 1, 1) := by decide +kernel
theorem dX5_copyFrom_56 : decode cX5_copyFrom 56 = .ok (.getfield 25, 3) := by decide +kernel
theorem dX5_copyFrom_59 : decode cX5_copyFrom 59 = .ok (.iconst 0, 1) := by decide +kernel
theorem dX5_copyFrom_60 : decode cX5_copyFrom 60 = .ok (.aload_n 0, 1) := by decide +kernel
theorem dX5_copyFrom_61 : decode cX5_copyFrom 61 = .ok (.getfield 25, 3) := by decide +kernel
theorem dX5_copyFrom_64 : decode cX5_copyFrom 64 = .ok (.iconst 0, 1) := by decide +kernel
theorem dX5_copyFrom_65 : decode cX5_copyFrom 65 = .ok (.bipush 6, 2) := by decide +kernel
theorem dX5_copyFrom_67 : decode cX5_copyFrom 67 = .ok (.invokestatic 47, 3) := by decide +kernel
theorem dX5_copyFrom_70 : decode cX5_copyFrom 70 = .ok (.aload_n 1, 1) := by decide +kernel
theorem dX5_copyFrom_71 : decode cX5_copyFrom 71 = .ok (.getfield 28, 3) := by decide +kernel
theorem dX5_copyFrom_74 : decode cX5_copyFrom 74 = .ok (.iconst 0, 1) := by decide +kernel
theorem dX5_copyFrom_75 : decode cX5_copyFrom 75 = .ok (.aload_n 0, 1) := by decide +kernel
theorem dX5_copyFrom_76 : decode cX5_copyFrom 76 = .ok (.getfield 28, 3) := by decide +kernel
theorem dX5_copyFrom_79 : decode cX5_copyFrom 79 = .ok (.iconst 0, 1) := by decide +kernel
theorem dX5_copyFrom_80 : decode cX5_copyFrom 80 = .ok (.bipush 6, 2) := by decide +kernel
theorem dX5_copyFrom_82 : decode cX5_copyFrom 82 = .ok (.invokestatic 47, 3) := by decide +kernel
theorem dX5_copyFrom_85 : decode cX5_copyFrom 85 = .ok (.aload_n 1, 1) := by decide +kernel
theorem dX5_copyFrom_86 : decode cX5_copyFrom 86 = .ok (.getfield 32, 3) := by decide +kernel
theorem dX5_copyFrom_89 : decode cX5_copyFrom 89 = .ok (.iconst 0, 1) := by decide +kernel
theorem dX5_copyFrom_90 : decode cX5_copyFrom 90 = .ok (.aload_n 0, 1) := by decide +kernel
theorem dX5_copyFrom_91 : decode cX5_copyFrom 91 = .ok (.getfield 32, 3) := by decide +kernel
theorem dX5_copyFrom_94 : decode cX5_copyFrom 94 = .ok (.iconst 0, 1) := by decide +kernel
theorem dX5_copyFrom_95 : decode cX5_copyFrom 95 = .ok (.bipush 8, 2) := by decide +kernel
theorem dX5_copyFrom_97 : decode cX5_copyFrom 97 = .ok (.invokestatic 47, 3) := by decide +kernel
theorem dX5_copyFrom_100 : decode cX5_copyFrom 100 = .ok (.aload_n 1, 1) := by decide +kernel
theorem dX5_copyFrom_101 : decode cX5_copyFrom 101 = .ok (.getfield 35, 3) := by decide +kernel
theorem dX5_copyFrom_104 : decode cX5_copyFrom 104 = .ok (.iconst 0, 1) := by decide +kernel
theorem dX5_copyFrom_105 : decode cX5_copyFrom 105 = .ok (.aload_n 0, 1) := by decide +kernel
theorem dX5_copyFrom_106 : decode cX5_copyFrom 106 = .ok (.getfield 35, 3) := by decide +kernel
theorem dX5_copyFrom_109 : decode cX5_copyFrom 109 = .ok (.iconst 0, 1) := by decide +kernel
theorem dX5_copyFrom_110 : decode cX5_copyFrom 110 = .ok (.bipush 8, 2) := by decide +kernel
theorem dX5_copyFrom_112 : decode cX5_copyFrom 112 = .ok (.invokestatic 47, 3) := by decide +kernel
theorem dX5_copyFrom_115 : decode cX5_copyFrom 115 = .ok (.aload_n 1, 1) := by decide +kernel
theorem dX5_copyFrom_116 : decode cX5_copyFrom 116 = .ok (.getfield 38, 3) := by decide +kernel
theorem dX5_copyFrom_119 : decode cX5_copyFrom 119 = .ok (.iconst 0, 1) := by decide +kernel
theorem dX5_copyFrom_120 : decode cX5_copyFrom 120 = .ok (.aload_n 0, 1) := by decide +kernel
theorem dX5_copyFrom_121 : decode cX5_copyFrom 121 = .ok (.getfield 38, 3) := by decide +kernel
theorem dX5_copyFrom_124 : decode cX5_copyFrom 124 = .ok (.iconst 0, 1) := by decide +kernel
theorem dX5_copyFrom_125 : decode cX5_copyFrom 125 = .ok (.bipush 8, 2) := by decide +kernel
theorem dX5_copyFrom_127 : decode cX5_copyFrom 127 = .ok (.invokestatic 47, 3) := by decide +kernel
theorem dX5_copyFrom_130 : decode cX5_copyFrom 130 = .ok (.return_, 1) := by decide +kernel
theorem dX5_addHouse_0 : decode cX5_addHouse 0 = .ok (.aload_n 0, 1) := by decide +kernel
theorem dX5_addHouse_1 : decode cX5_addHouse 1 = .ok (.getfield 41, 3) := by decide +kernel
theorem dX5_addHouse_4 : decode cX5_addHouse 4 = .ok (.bipush 6, 2) := by decide +kernel
theorem dX5_addHouse_6 : decode cX5_addHouse 6 = .ok (.if_icmp .ge 43, 3) := by decide +kernel
theorem dX5_addHouse_9 : decode cX5_addHouse 9 = .ok (.aload_n 0, 1) := by decide +kernel
theorem dX5_addHouse_10 : decode cX5_addHouse 10 = .ok (.getfield 28, 3) := by decide +kernel
theorem dX5_addHouse_13 : decode cX5_addHouse 13 = .ok (.aload_n 0, 1) := by decide +kernel
theorem dX5_addHouse_14 : decode cX5_addHouse 14 = .ok (.getfield 41, 3) := by decide +kernel
theorem dX5_addHouse_17 : decode cX5_addHouse 17 = .ok (.lload_n 1, 1) := by decide +kernel
theorem dX5_addHouse_18 : decode cX5_addHouse 18 = .ok (.lastore, 1) := by decide +kernel
theorem dX5_addHouse_19 : decode cX5_addHouse 19 = .ok (.aload_n 0, 1) := by decide +kernel
theorem dX5_addHouse_20 : decode cX5_addHouse 20 = .ok (.getfield 21, 3) := by decide +kernel
theorem dX5_addHouse_23 : decode cX5_addHouse 23 = .ok (.aload_n 0, 1) := by decide +kernel
theorem dX5_addHouse_24 : decode cX5_addHouse 24 = .ok (.getfield 41, 3) := by decide +kernel
theorem dX5_addHouse_27 : decode cX5_addHouse 27 = .ok (.iload_n 3, 1) := by decide +kernel
theorem dX5_addHouse_28 : decode cX5_addHouse 28 = .ok (.iastore, 1) := by decide +kernel
theorem dX5_addHouse_29 : decode cX5_addHouse 29 = .ok (.aload_n 0, 1) := by decide +kernel
theorem dX5_addHouse_30 : decode cX5_addHouse 30 = .ok (.getfield 25, 3) := by decide +kernel
theorem dX5_addHouse_33 : decode cX5_addHouse 33 = .ok (.aload_n 0, 1) := by decide +kernel
theorem dX5_addHouse_34 : decode cX5_addHouse 34 = .ok (.getfield 41, 3) := by decide +kernel
theorem dX5_addHouse_37 : decode cX5_addHouse 37 = .ok (.iconst 0, 1) := by decide +kernel
theorem dX5_addHouse_38 : decode cX5_addHouse 38 = .ok (.iastore, 1) := by decide +kernel
theorem dX5_addHouse_39 : decode cX5_addHouse 39 = .ok (.aload_n 0, 1) := by decide +kernel
theorem dX5_addHouse_40 : decode cX5_addHouse 40 = .ok (.dup, 1) := by decide +kernel
theorem dX5_addHouse_41 : decode cX5_addHouse 41 = .ok (.getfield 41, 3) := by decide +kernel
theorem dX5_addHouse_44 : decode cX5_addHouse 44 = .ok (.iconst 1, 1) := by decide +kernel
theorem dX5_addHouse_45 : decode cX5_addHouse 45 = .ok (.iadd, 1) := by decide +kernel
theorem dX5_addHouse_46 : decode cX5_addHouse 46 = .ok (.putfield 41, 3) := by decide +kernel
theorem dX5_addHouse_49 : decode cX5_addHouse 49 = .ok (.return_, 1) := by decide +kernel
theorem dX5_addPerson_0 : decode cX5_addPerson 0 = .ok (.aload_n 0, 1) := by decide +kernel
theorem dX5_addPerson_1 : decode cX5_addPerson 1 = .ok (.getfield 44, 3) := by decide +kernel
theorem dX5_addPerson_4 : decode cX5_addPerson 4 = .ok (.bipush 8, 2) := by decide +kernel
theorem dX5_addPerson_6 : decode cX5_addPerson 6 = .ok (.if_icmp .ge 67, 3) := by decide +kernel
theorem dX5_addPerson_9 : decode cX5_addPerson 9 = .ok (.aload_n 0, 1) := by decide +kernel
theorem dX5_addPerson_10 : decode cX5_addPerson 10 = .ok (.getfield 38, 3) := by decide +kernel
theorem dX5_addPerson_13 : decode cX5_addPerson 13 = .ok (.aload_n 0, 1) := by decide +kernel
theorem dX5_addPerson_14 : decode cX5_addPerson 14 = .ok (.getfield 44, 3) := by decide +kernel
theorem dX5_addPerson_17 : decode cX5_addPerson 17 = .ok (.lload_n 1, 1) := by decide +kernel
theorem dX5_addPerson_18 : decode cX5_addPerson 18 = .ok (.lastore, 1) := by decide +kernel
theorem dX5_addPerson_19 : decode cX5_addPerson 19 = .ok (.aload_n 0, 1) := by decide +kernel
theorem dX5_addPerson_20 : decode cX5_addPerson 20 = .ok (.getfield 32, 3) := by decide +kernel
theorem dX5_addPerson_23 : decode cX5_addPerson 23 = .ok (.aload_n 0, 1) := by decide +kernel
theorem dX5_addPerson_24 : decode cX5_addPerson 24 = .ok (.getfield 44, 3) := by decide +kernel
theorem dX5_addPerson_27 : decode cX5_addPerson 27 = .ok (.iload_n 3, 1) := by decide +kernel
theorem dX5_addPerson_28 : decode cX5_addPerson 28 = .ok (.iastore, 1) := by decide +kernel
theorem dX5_addPerson_29 : decode cX5_addPerson 29 = .ok (.aload_n 0, 1) := by decide +kernel
theorem dX5_addPerson_30 : decode cX5_addPerson 30 = .ok (.getfield 35, 3) := by decide +kernel
theorem dX5_addPerson_33 : decode cX5_addPerson 33 = .ok (.aload_n 0, 1) := by decide +kernel
theorem dX5_addPerson_34 : decode cX5_addPerson 34 = .ok (.getfield 44, 3) := by decide +kernel
theorem dX5_addPerson_37 : decode cX5_addPerson 37 = .ok (.iload 4, 2) := by decide +kernel
theorem dX5_addPerson_39 : decode cX5_addPerson 39 = .ok (.iastore, 1) := by decide +kernel
theorem dX5_addPerson_40 : decode cX5_addPerson 40 = .ok (.aload_n 0, 1) := by decide +kernel
theorem dX5_addPerson_41 : decode cX5_addPerson 41 = .ok (.iload_n 3, 1) := by decide +kernel
theorem dX5_addPerson_42 : decode cX5_addPerson 42 = .ok (.invokevirtual 53, 3) := by decide +kernel
theorem dX5_addPerson_45 : decode cX5_addPerson 45 = .ok (.ifCond .eq 18, 3) := by decide +kernel
theorem dX5_addPerson_48 : decode cX5_addPerson 48 = .ok (.aload_n 0, 1) := by decide +kernel
theorem dX5_addPerson_49 : decode cX5_addPerson 49 = .ok (.getfield 25, 3) := by decide +kernel
theorem dX5_addPerson_52 : decode cX5_addPerson 52 = .ok (.iload_n 3, 1) := by decide +kernel
theorem dX5_addPerson_53 : decode cX5_addPerson 53 = .ok (.dup2, 1) := by decide +kernel
theorem dX5_addPerson_54 : decode cX5_addPerson 54 = .ok (.iaload, 1) := by decide +kernel
theorem dX5_addPerson_55 : decode cX5_addPerson 55 = .ok (.iconst 1, 1) := by decide +kernel
theorem dX5_addPerson_56 : decode cX5_addPerson 56 = .ok (.aload_n 0, 1) := by decide +kernel
theorem dX5_addPerson_57 : decode cX5_addPerson 57 = .ok (.getfield 44, 3) := by decide +kernel
theorem dX5_addPerson_60 : decode cX5_addPerson 60 = .ok (.ishl, 1) := by decide +kernel
theorem dX5_addPerson_61 : decode cX5_addPerson 61 = .ok (.ior, 1) := by decide +kernel
theorem dX5_addPerson_62 : decode cX5_addPerson 62 = .ok (.iastore, 1) := by decide +kernel
theorem dX5_addPerson_63 : decode cX5_addPerson 63 = .ok (.aload_n 0, 1) := by decide +kernel
theorem dX5_addPerson_64 : decode cX5_addPerson 64 = .ok (.dup, 1) := by decide +kernel
theorem dX5_addPerson_65 : decode cX5_addPerson 65 = .ok (.getfield 44, 3) := by decide +kernel
theorem dX5_addPerson_68 : decode cX5_addPerson 68 = .ok (.iconst 1, 1) := by decide +kernel
theorem dX5_addPerson_69 : decode cX5_addPerson 69 = .ok (.iadd, 1) := by decide +kernel
theorem dX5_addPerson_70 : decode cX5_addPerson 70 = .ok (.putfield 44, 3) := by decide +kernel
theorem dX5_addPerson_73 : decode cX5_addPerson 73 = .ok (.return_, 1) := by decide +kernel
theorem dX5_hasHouse_0 : decode cX5_hasHouse 0 = .ok (.iload_n 1, 1) := by decide +kernel
theorem dX5_hasHouse_1 : decode cX5_hasHouse 1 = .ok (.ifCond .lt 21, 3) := by decide +kernel
theorem dX5_hasHouse_4 : decode cX5_hasHouse 4 = .ok (.iload_n 1, 1) := by decide +kernel
theorem dX5_hasHouse_5 : decode cX5_hasHouse 5 = .ok (.aload_n 0, 1) := by decide +kernel
theorem dX5_hasHouse_6 : decode cX5_hasHouse 6 = .ok (.getfield 41, 3) := by decide +kernel
theorem dX5_hasHouse_9 : decode cX5_hasHouse 9 = .ok (.if_icmp .ge 13, 3) := by decide +kernel
theorem dX5_hasHouse_12 : decode cX5_hasHouse 12 = .ok (.iload_n 1, 1) := by decide +kernel
theorem dX5_hasHouse_13 : decode cX5_hasHouse 13 = .ok (.bipush 6, 2) := by decide +kernel
theorem dX5_hasHouse_15 : decode cX5_hasHouse 15 = .ok (.if_icmp .ge 7, 3) := by decide +kernel
theorem dX5_hasHouse_18 : decode cX5_hasHouse 18 = .ok (.iconst 1, 1) := by decide +kernel
theorem dX5_hasHouse_19 : decode cX5_hasHouse 19 = .ok (.goto 4, 3) := by decide +kernel
theorem dX5_hasHouse_22 : decode cX5_hasHouse 22 = .ok (.iconst 0, 1) := by decide +kernel
theorem dX5_hasHouse_23 : decode cX5_hasHouse 23 = .ok (.ireturn, 1) := by decide +kernel
theorem dX5_hasPerson_0 : decode cX5_hasPerson 0 = .ok (.iload_n 1, 1) := by decide +kernel
theorem dX5_hasPerson_1 : decode cX5_hasPerson 1 = .ok (.ifCond .lt 21, 3) := by decide +kernel
theorem dX5_hasPerson_4 : decode cX5_hasPerson 4 = .ok (.iload_n 1, 1) := by decide +kernel
theorem dX5_hasPerson_5 : decode cX5_hasPerson 5 = .ok (.aload_n 0, 1) := by decide +kernel
theorem dX5_hasPerson_6 : decode cX5_hasPerson 6 = .ok (.getfield 44, 3) := by decide +kernel
theorem dX5_hasPerson_9 : decode cX5_hasPerson 9 = .ok (.if_icmp .ge 13, 3) := by decide +kernel
theorem dX5_hasPerson_12 : decode cX5_hasPerson 12 = .ok (.iload_n 1, 1) := by decide +kernel
theorem dX5_hasPerson_13 : decode cX5_hasPerson 13 = .ok (.bipush 8, 2) := by decide +kernel
theorem dX5_hasPerson_15 : decode cX5_hasPerson 15 = .ok (.if_icmp .ge 7, 3) := by decide +kernel
theorem dX5_hasPerson_18 : decode cX5_hasPerson 18 = .ok (.iconst 1, 1) := by decide +kernel
theorem dX5_hasPerson_19 : decode cX5_hasPerson 19 = .ok (.goto 4, 3) := by decide +kernel
theorem dX5_hasPerson_22 : decode cX5_hasPerson 22 = .ok (.iconst 0, 1) := by decide +kernel
theorem dX5_hasPerson_23 : decode cX5_hasPerson 23 = .ok (.ireturn, 1) := by decide +kernel
theorem dX5_findHouse_0 : decode cX5_findHouse 0 = .ok (.iconst 0, 1) := by decide +kernel
theorem dX5_findHouse_1 : decode cX5_findHouse 1 = .ok (.istore_n 3, 1) := by decide +kernel
theorem dX5_findHouse_2 : decode cX5_findHouse 2 = .ok (.iload_n 3, 1) := by decide +kernel
theorem dX5_findHouse_3 : decode cX5_findHouse 3 = .ok (.aload_n 0, 1) := by decide +kernel
theorem dX5_findHouse_4 : decode cX5_findHouse 4 = .ok (.getfield 41, 3) := by decide +kernel
theorem dX5_findHouse_7 : decode cX5_findHouse 7 = .ok (.if_icmp .ge 28, 3) := by decide +kernel
theorem dX5_findHouse_10 : decode cX5_findHouse 10 = .ok (.iload_n 3, 1) := by decide +kernel
theorem dX5_findHouse_11 : decode cX5_findHouse 11 = .ok (.bipush 6, 2) := by decide +kernel
theorem dX5_findHouse_13 : decode cX5_findHouse 13 = .ok (.if_icmp .ge 22, 3) := by decide +kernel
theorem dX5_findHouse_16 : decode cX5_findHouse 16 = .ok (.aload_n 0, 1) := by decide +kernel
theorem dX5_findHouse_17 : decode cX5_findHouse 17 = .ok (.getfield 28, 3) := by decide +kernel
theorem dX5_findHouse_20 : decode cX5_findHouse 20 = .ok (.iload_n 3, 1) := by decide +kernel
theorem dX5_findHouse_21 : decode cX5_findHouse 21 = .ok (.laload, 1) := by decide +kernel
theorem dX5_findHouse_22 : decode cX5_findHouse 22 = .ok (.lload_n 1, 1) := by decide +kernel
theorem dX5_findHouse_23 : decode cX5_findHouse 23 = .ok (.lcmp, 1) := by decide +kernel
theorem dX5_findHouse_24 : decode cX5_findHouse 24 = .ok (.ifCond .ne 5, 3) := by decide +kernel
theorem dX5_findHouse_27 : decode cX5_findHouse 27 = .ok (.iload_n 3, 1) := by decide +kernel
theorem dX5_findHouse_28 : decode cX5_findHouse 28 = .ok (.ireturn, 1) := by decide +kernel
theorem dX5_findHouse_29 : decode cX5_findHouse 29 = .ok (.iinc 3 1, 3) := by decide +kernel
theorem dX5_findHouse_32 : decode cX5_findHouse 32 = .ok (.goto (-30), 3) := by decide +kernel
theorem dX5_findHouse_35 : decode cX5_findHouse 35 = .ok (.iconst (-1), 1) := by decide +kernel
theorem dX5_findHouse_36 : decode cX5_findHouse 36 = .ok (.ireturn, 1) := by decide +kernel
theorem dX5_findPerson_0 : decode cX5_findPerson 0 = .ok (.iconst 0, 1) := by decide +kernel
theorem dX5_findPerson_1 : decode cX5_findPerson 1 = .ok (.istore_n 3, 1) := by decide +kernel
theorem dX5_findPerson_2 : decode cX5_findPerson 2 = .ok (.iload_n 3, 1) := by decide +kernel
theorem dX5_findPerson_3 : decode cX5_findPerson 3 = .ok (.aload_n 0, 1) := by decide +kernel
theorem dX5_findPerson_4 : decode cX5_findPerson 4 = .ok (.getfield 44, 3) := by decide +kernel
theorem dX5_findPerson_7 : decode cX5_findPerson 7 = .ok (.if_icmp .ge 28, 3) := by decide +kernel
theorem dX5_findPerson_10 : decode cX5_findPerson 10 = .ok (.iload_n 3, 1) := by decide +kernel
theorem dX5_findPerson_11 : decode cX5_findPerson 11 = .ok (.bipush 8, 2) := by decide +kernel
theorem dX5_findPerson_13 : decode cX5_findPerson 13 = .ok (.if_icmp .ge 22, 3) := by decide +kernel
theorem dX5_findPerson_16 : decode cX5_findPerson 16 = .ok (.aload_n 0, 1) := by decide +kernel
theorem dX5_findPerson_17 : decode cX5_findPerson 17 = .ok (.getfield 38, 3) := by decide +kernel
theorem dX5_findPerson_20 : decode cX5_findPerson 20 = .ok (.iload_n 3, 1) := by decide +kernel
theorem dX5_findPerson_21 : decode cX5_findPerson 21 = .ok (.laload, 1) := by decide +kernel
theorem dX5_findPerson_22 : decode cX5_findPerson 22 = .ok (.lload_n 1, 1) := by decide +kernel
theorem dX5_findPerson_23 : decode cX5_findPerson 23 = .ok (.lcmp, 1) := by decide +kernel
theorem dX5_findPerson_24 : decode cX5_findPerson 24 = .ok (.ifCond .ne 5, 3) := by decide +kernel
theorem dX5_findPerson_27 : decode cX5_findPerson 27 = .ok (.iload_n 3, 1) := by decide +kernel
theorem dX5_findPerson_28 : decode cX5_findPerson 28 = .ok (.ireturn, 1) := by decide +kernel
theorem dX5_findPerson_29 : decode cX5_findPerson 29 = .ok (.iinc 3 1, 3) := by decide +kernel
theorem dX5_findPerson_32 : decode cX5_findPerson 32 = .ok (.goto (-30), 3) := by decide +kernel
theorem dX5_findPerson_35 : decode cX5_findPerson 35 = .ok (.iconst (-1), 1) := by decide +kernel
theorem dX5_findPerson_36 : decode cX5_findPerson 36 = .ok (.ireturn, 1) := by decide +kernel
theorem dX5_placeOf_0 : decode cX5_placeOf 0 = .ok (.aload_n 0, 1) := by decide +kernel
theorem dX5_placeOf_1 : decode cX5_placeOf 1 = .ok (.iload_n 1, 1) := by decide +kernel
theorem dX5_placeOf_2 : decode cX5_placeOf 2 = .ok (.invokevirtual 53, 3) := by decide +kernel
theorem dX5_placeOf_5 : decode cX5_placeOf 5 = .ok (.ifCond .eq 12, 3) := by decide +kernel
theorem dX5_placeOf_8 : decode cX5_placeOf 8 = .ok (.aload_n 0, 1) := by decide +kernel
theorem dX5_placeOf_9 : decode cX5_placeOf 9 = .ok (.getfield 21, 3) := by decide +kernel
theorem dX5_placeOf_12 : decode cX5_placeOf 12 = .ok (.iload_n 1, 1) := by decide +kernel
theorem dX5_placeOf_13 : decode cX5_placeOf 13 = .ok (.iaload, 1) := by decide +kernel
theorem dX5_placeOf_14 : decode cX5_placeOf 14 = .ok (.goto 4, 3) := by decide +kernel
theorem dX5_placeOf_17 : decode cX5_placeOf 17 = .ok (.iconst (-1), 1) := by decide +kernel
theorem dX5_placeOf_18 : decode cX5_placeOf 18 = .ok (.ireturn, 1) := by decide +kernel
theorem dX5_livingIn_0 : decode cX5_livingIn 0 = .ok (.iload_n 1, 1) := by decide +kernel
theorem dX5_livingIn_1 : decode cX5_livingIn 1 = .ok (.ifCond .lt 26, 3) := by decide +kernel
theorem dX5_livingIn_4 : decode cX5_livingIn 4 = .ok (.iload_n 1, 1) := by decide +kernel
theorem dX5_livingIn_5 : decode cX5_livingIn 5 = .ok (.aload_n 0, 1) := by decide +kernel
theorem dX5_livingIn_6 : decode cX5_livingIn 6 = .ok (.getfield 41, 3) := by decide +kernel
theorem dX5_livingIn_9 : decode cX5_livingIn 9 = .ok (.if_icmp .ge 18, 3) := by decide +kernel
theorem dX5_livingIn_12 : decode cX5_livingIn 12 = .ok (.iload_n 1, 1) := by decide +kernel
theorem dX5_livingIn_13 : decode cX5_livingIn 13 = .ok (.bipush 6, 2) := by decide +kernel
theorem dX5_livingIn_15 : decode cX5_livingIn 15 = .ok (.if_icmp .ge 12, 3) := by decide +kernel
theorem dX5_livingIn_18 : decode cX5_livingIn 18 = .ok (.aload_n 0, 1) := by decide +kernel
theorem dX5_livingIn_19 : decode cX5_livingIn 19 = .ok (.getfield 25, 3) := by decide +kernel
theorem dX5_livingIn_22 : decode cX5_livingIn 22 = .ok (.iload_n 1, 1) := by decide +kernel
theorem dX5_livingIn_23 : decode cX5_livingIn 23 = .ok (.iaload, 1) := by decide +kernel
theorem dX5_livingIn_24 : decode cX5_livingIn 24 = .ok (.goto 4, 3) := by decide +kernel
theorem dX5_livingIn_27 : decode cX5_livingIn 27 = .ok (.iconst 0, 1) := by decide +kernel
theorem dX5_livingIn_28 : decode cX5_livingIn 28 = .ok (.ireturn, 1) := by decide +kernel
theorem dX5_nameOfHouse_0 : decode cX5_nameOfHouse 0 = .ok (.aload_n 0, 1) := by decide +kernel
theorem dX5_nameOfHouse_1 : decode cX5_nameOfHouse 1 = .ok (.iload_n 1, 1) := by decide +kernel
theorem dX5_nameOfHouse_2 : decode cX5_nameOfHouse 2 = .ok (.invokevirtual 53, 3) := by decide +kernel
theorem dX5_nameOfHouse_5 : decode cX5_nameOfHouse 5 = .ok (.ifCond .eq 12, 3) := by decide +kernel
theorem dX5_nameOfHouse_8 : decode cX5_nameOfHouse 8 = .ok (.aload_n 0, 1) := by decide +kernel
theorem dX5_nameOfHouse_9 : decode cX5_nameOfHouse 9 = .ok (.getfield 28, 3) := by decide +kernel
theorem dX5_nameOfHouse_12 : decode cX5_nameOfHouse 12 = .ok (.iload_n 1, 1) := by decide +kernel
theorem dX5_nameOfHouse_13 : decode cX5_nameOfHouse 13 = .ok (.laload, 1) := by decide +kernel
theorem dX5_nameOfHouse_14 : decode cX5_nameOfHouse 14 = .ok (.goto 4, 3) := by decide +kernel
theorem dX5_nameOfHouse_17 : decode cX5_nameOfHouse 17 = .ok (.lconst 0, 1) := by decide +kernel
theorem dX5_nameOfHouse_18 : decode cX5_nameOfHouse 18 = .ok (.lreturn, 1) := by decide +kernel
theorem dX5_homeOf_0 : decode cX5_homeOf 0 = .ok (.aload_n 0, 1) := by decide +kernel
theorem dX5_homeOf_1 : decode cX5_homeOf 1 = .ok (.iload_n 1, 1) := by decide +kernel
theorem dX5_homeOf_2 : decode cX5_homeOf 2 = .ok (.invokevirtual 57, 3) := by decide +kernel
theorem dX5_homeOf_5 : decode cX5_homeOf 5 = .ok (.ifCond .eq 12, 3) := by decide +kernel
theorem dX5_homeOf_8 : decode cX5_homeOf 8 = .ok (.aload_n 0, 1) := by decide +kernel
theorem dX5_homeOf_9 : decode cX5_homeOf 9 = .ok (.getfield 32, 3) := by decide +kernel
theorem dX5_homeOf_12 : decode cX5_homeOf 12 = .ok (.iload_n 1, 1) := by decide +kernel
theorem dX5_homeOf_13 : decode cX5_homeOf 13 = .ok (.iaload, 1) := by decide +kernel
theorem dX5_homeOf_14 : decode cX5_homeOf 14 = .ok (.goto 4, 3) := by decide +kernel
theorem dX5_homeOf_17 : decode cX5_homeOf 17 = .ok (.iconst (-1), 1) := by decide +kernel
theorem dX5_homeOf_18 : decode cX5_homeOf 18 = .ok (.ireturn, 1) := by decide +kernel
theorem dX5_isStern_0 : decode cX5_isStern 0 = .ok (.aload_n 0, 1) := by decide +kernel
theorem dX5_isStern_1 : decode cX5_isStern 1 = .ok (.iload_n 1, 1) := by decide +kernel
theorem dX5_isStern_2 : decode cX5_isStern 2 = .ok (.invokevirtual 57, 3) := by decide +kernel
theorem dX5_isStern_5 : decode cX5_isStern 5 = .ok (.ifCond .eq 17, 3) := by decide +kernel
theorem dX5_isStern_8 : decode cX5_isStern 8 = .ok (.aload_n 0, 1) := by decide +kernel
theorem dX5_isStern_9 : decode cX5_isStern 9 = .ok (.getfield 35, 3) := by decide +kernel
theorem dX5_isStern_12 : decode cX5_isStern 12 = .ok (.iload_n 1, 1) := by decide +kernel
theorem dX5_isStern_13 : decode cX5_isStern 13 = .ok (.iaload, 1) := by decide +kernel
theorem dX5_isStern_14 : decode cX5_isStern 14 = .ok (.iconst 1, 1) := by decide +kernel
theorem dX5_isStern_15 : decode cX5_isStern 15 = .ok (.if_icmp .ne 7, 3) := by decide +kernel
theorem dX5_isStern_18 : decode cX5_isStern 18 = .ok (.iconst 1, 1) := by decide +kernel
theorem dX5_isStern_19 : decode cX5_isStern 19 = .ok (.goto 4, 3) := by decide +kernel
theorem dX5_isStern_22 : decode cX5_isStern 22 = .ok (.iconst 0, 1) := by decide +kernel
theorem dX5_isStern_23 : decode cX5_isStern 23 = .ok (.ireturn, 1) := by decide +kernel
theorem dX5_nameOfPerson_0 : decode cX5_nameOfPerson 0 = .ok (.aload_n 0, 1) := by decide +kernel
theorem dX5_nameOfPerson_1 : decode cX5_nameOfPerson 1 = .ok (.iload_n 1, 1) := by decide +kernel
theorem dX5_nameOfPerson_2 : decode cX5_nameOfPerson 2 = .ok (.invokevirtual 57, 3) := by decide +kernel
theorem dX5_nameOfPerson_5 : decode cX5_nameOfPerson 5 = .ok (.ifCond .eq 12, 3) := by decide +kernel
theorem dX5_nameOfPerson_8 : decode cX5_nameOfPerson 8 = .ok (.aload_n 0, 1) := by decide +kernel
theorem dX5_nameOfPerson_9 : decode cX5_nameOfPerson 9 = .ok (.getfield 38, 3) := by decide +kernel
theorem dX5_nameOfPerson_12 : decode cX5_nameOfPerson 12 = .ok (.iload_n 1, 1) := by decide +kernel
theorem dX5_nameOfPerson_13 : decode cX5_nameOfPerson 13 = .ok (.laload, 1) := by decide +kernel
theorem dX5_nameOfPerson_14 : decode cX5_nameOfPerson 14 = .ok (.goto 4, 3) := by decide +kernel
theorem dX5_nameOfPerson_17 : decode cX5_nameOfPerson 17 = .ok (.lconst 0, 1) := by decide +kernel
theorem dX5_nameOfPerson_18 : decode cX5_nameOfPerson 18 = .ok (.lreturn, 1) := by decide +kernel
theorem dX6_init_0 : decode cX6_init 0 = .ok (.aload_n 0, 1) := by decide +kernel
theorem dX6_init_1 : decode cX6_init 1 = .ok (.invokespecial 3, 3) := by decide +kernel
theorem dX6_init_4 : decode cX6_init 4 = .ok (.aload_n 0, 1) := by decide +kernel
theorem dX6_init_5 : decode cX6_init 5 = .ok (.aload_n 1, 1) := by decide +kernel
theorem dX6_init_6 : decode cX6_init 6 = .ok (.putfield 9, 3) := by decide +kernel
theorem dX6_init_9 : decode cX6_init 9 = .ok (.aload_n 0, 1) := by decide +kernel
theorem dX6_init_10 : decode cX6_init 10 = .ok (.aload_n 2, 1) := by decide +kernel
theorem dX6_init_11 : decode cX6_init 11 = .ok (.getfield 15, 3) := by decide +kernel
theorem dX6_init_14 : decode cX6_init 14 = .ok (.putfield 21, 3) := by decide +kernel
theorem dX6_init_17 : decode cX6_init 17 = .ok (.aload_n 0, 1) := by decide +kernel
theorem dX6_init_18 : decode cX6_init 18 = .ok (.aload_n 2, 1) := by decide +kernel
theorem dX6_init_19 : decode cX6_init 19 = .ok (.getfield 22, 3) := by decide +kernel
theorem dX6_init_22 : decode cX6_init 22 = .ok (.putfield 26, 3) := by decide +kernel
theorem dX6_init_25 : decode cX6_init 25 = .ok (.return_, 1) := by decide +kernel
theorem dX6_readAll_0 : decode cX6_readAll 0 = .ok (.aload_n 0, 1) := by decide +kernel
theorem dX6_readAll_1 : decode cX6_readAll 1 = .ok (.getfield 21, 3) := by decide +kernel
theorem dX6_readAll_4 : decode cX6_readAll 4 = .ok (.invokevirtual 27, 3) := by decide +kernel
theorem dX6_readAll_7 : decode cX6_readAll 7 = .ok (.aload_n 0, 1) := by decide +kernel
theorem dX6_readAll_8 : decode cX6_readAll 8 = .ok (.getfield 26, 3) := by decide +kernel
theorem dX6_readAll_11 : decode cX6_readAll 11 = .ok (.invokevirtual 32, 3) := by decide +kernel
theorem dX6_readAll_14 : decode cX6_readAll 14 = .ok (.aload_n 0, 1) := by decide +kernel
theorem dX6_readAll_15 : decode cX6_readAll 15 = .ok (.iconst 0, 1) := by decide +kernel
theorem dX6_readAll_16 : decode cX6_readAll 16 = .ok (.putfield 35, 3) := by decide +kernel
theorem dX6_readAll_19 : decode cX6_readAll 19 = .ok (.aload_n 0, 1) := by decide +kernel
theorem dX6_readAll_20 : decode cX6_readAll 20 = .ok (.iconst 0, 1) := by decide +kernel
theorem dX6_readAll_21 : decode cX6_readAll 21 = .ok (.putfield 39, 3) := by decide +kernel
theorem dX6_readAll_24 : decode cX6_readAll 24 = .ok (.aload_n 0, 1) := by decide +kernel
theorem dX6_readAll_25 : decode cX6_readAll 25 = .ok (.iconst 0, 1) := by decide +kernel
theorem dX6_readAll_26 : decode cX6_readAll 26 = .ok (.putfield 42, 3) := by decide +kernel
theorem dX6_readAll_29 : decode cX6_readAll 29 = .ok (.aload_n 0, 1) := by decide +kernel
theorem dX6_readAll_30 : decode cX6_readAll 30 = .ok (.getfield 9, 3) := by decide +kernel
theorem dX6_readAll_33 : decode cX6_readAll 33 = .ok (.sipush 900, 3) := by decide +kernel
theorem dX6_readAll_36 : decode cX6_readAll 36 = .ok (.invokevirtual 45, 3) := by decide +kernel
theorem dX6_readAll_39 : decode cX6_readAll 39 = .ok (.iconst 0, 1) := by decide +kernel
theorem dX6_readAll_40 : decode cX6_readAll 40 = .ok (.istore_n 1, 1) := by decide +kernel
theorem dX6_readAll_41 : decode cX6_readAll 41 = .ok (.iload_n 1, 1) := by decide +kernel
theorem dX6_readAll_42 : decode cX6_readAll 42 = .ok (.sipush 940, 3) := by decide +kernel
theorem dX6_readAll_45 : decode cX6_readAll 45 = .ok (.if_icmp .ge 38, 3) := by decide +kernel
theorem dX6_readAll_48 : decode cX6_readAll 48 = .ok (.aload_n 0, 1) := by decide +kernel
theorem dX6_readAll_49 : decode cX6_readAll 49 = .ok (.getfield 9, 3) := by decide +kernel
theorem dX6_readAll_52 : decode cX6_readAll 52 = .ok (.invokevirtual 51, 3) := by decide +kernel
theorem dX6_readAll_55 : decode cX6_readAll 55 = .ok (.ifCond .ne 28, 3) := by decide +kernel
theorem dX6_readAll_58 : decode cX6_readAll 58 = .ok (.aload_n 0, 1) := by decide +kernel
theorem dX6_readAll_59 : decode cX6_readAll 59 = .ok (.invokevirtual 55, 3) := by decide +kernel
theorem dX6_readAll_62 : decode cX6_readAll 62 = .ok (.ifCond .eq 13, 3) := by decide +kernel
theorem dX6_readAll_65 : decode cX6_readAll 65 = .ok (.aload_n 0, 1) := by decide +kernel
theorem dX6_readAll_66 : decode cX6_readAll 66 = .ok (.getfield 9, 3) := by decide +kernel
theorem dX6_readAll_69 : decode cX6_readAll 69 = .ok (.invokevirtual 58, 3) := by decide +kernel
theorem dX6_readAll_72 : decode cX6_readAll 72 = .ok (.ifCond .ne 5, 3) := by decide +kernel
theorem dX6_readAll_75 : decode cX6_readAll 75 = .ok (.iconst (-1), 1) := by decide +kernel
theorem dX6_readAll_76 : decode cX6_readAll 76 = .ok (.ireturn, 1) := by decide +kernel
theorem dX6_readAll_77 : decode cX6_readAll 77 = .ok (.iinc 1 1, 3) := by decide +kernel
theorem dX6_readAll_80 : decode cX6_readAll 80 = .ok (.goto (-39), 3) := by decide +kernel
theorem dX6_readAll_83 : decode cX6_readAll 83 = .ok (.iload_n 1, 1) := by decide +kernel
theorem dX6_readAll_84 : decode cX6_readAll 84 = .ok (.ireturn, 1) := by decide +kernel
theorem dX6_readLine_0 : decode cX6_readLine 0 = .ok (.aload_n 0, 1) := by decide +kernel
theorem dX6_readLine_1 : decode cX6_readLine 1 = .ok (.getfield 9, 3) := by decide +kernel
theorem dX6_readLine_4 : decode cX6_readLine 4 = .ok (.getfield 61, 3) := by decide +kernel
theorem dX6_readLine_7 : decode cX6_readLine 7 = .ok (.iconst 1, 1) := by decide +kernel
theorem dX6_readLine_8 : decode cX6_readLine 8 = .ok (.if_icmp .eq 9, 3) := by decide +kernel
theorem dX6_readLine_11 : decode cX6_readLine 11 = .ok (.aload_n 0, 1) := by decide +kernel
theorem dX6_readLine_12 : decode cX6_readLine 12 = .ok (.iconst 1, 1) := by decide +kernel
theorem dX6_readLine_13 : decode cX6_readLine 13 = .ok (.invokevirtual 65, 3) := by decide +kernel
theorem dX6_readLine_16 : decode cX6_readLine 16 = .ok (.ireturn, 1) := by decide +kernel
theorem dX6_readLine_17 : decode cX6_readLine 17 = .ok (.aload_n 0, 1) := by decide +kernel
theorem dX6_readLine_18 : decode cX6_readLine 18 = .ok (.getfield 9, 3) := by decide +kernel
theorem dX6_readLine_21 : decode cX6_readLine 21 = .ok (.getfield 69, 3) := by decide +kernel
theorem dX6_readLine_24 : decode cX6_readLine 24 = .ok (.tableswitch 83 0 7 #[48, 53, 58, 83, 63, 68, 73, 78], 48) := by decide +kernel
theorem dX6_readLine_72 : decode cX6_readLine 72 = .ok (.aload_n 0, 1) := by decide +kernel
theorem dX6_readLine_73 : decode cX6_readLine 73 = .ok (.invokevirtual 72, 3) := by decide +kernel
theorem dX6_readLine_76 : decode cX6_readLine 76 = .ok (.ireturn, 1) := by decide +kernel
theorem dX6_readLine_77 : decode cX6_readLine 77 = .ok (.aload_n 0, 1) := by decide +kernel
theorem dX6_readLine_78 : decode cX6_readLine 78 = .ok (.invokevirtual 75, 3) := by decide +kernel
theorem dX6_readLine_81 : decode cX6_readLine 81 = .ok (.ireturn, 1) := by decide +kernel
theorem dX6_readLine_82 : decode cX6_readLine 82 = .ok (.aload_n 0, 1) := by decide +kernel
theorem dX6_readLine_83 : decode cX6_readLine 83 = .ok (.invokevirtual 78, 3) := by decide +kernel
theorem dX6_readLine_86 : decode cX6_readLine 86 = .ok (.ireturn, 1) := by decide +kernel
theorem dX6_readLine_87 : decode cX6_readLine 87 = .ok (.aload_n 0, 1) := by decide +kernel
theorem dX6_readLine_88 : decode cX6_readLine 88 = .ok (.invokevirtual 81, 3) := by decide +kernel
theorem dX6_readLine_91 : decode cX6_readLine 91 = .ok (.ireturn, 1) := by decide +kernel
theorem dX6_readLine_92 : decode cX6_readLine 92 = .ok (.aload_n 0, 1) := by decide +kernel
theorem dX6_readLine_93 : decode cX6_readLine 93 = .ok (.invokevirtual 84, 3) := by decide +kernel
theorem dX6_readLine_96 : decode cX6_readLine 96 = .ok (.ireturn, 1) := by decide +kernel
theorem dX6_readLine_97 : decode cX6_readLine 97 = .ok (.aload_n 0, 1) := by decide +kernel
theorem dX6_readLine_98 : decode cX6_readLine 98 = .ok (.invokevirtual 87, 3) := by decide +kernel
theorem dX6_readLine_101 : decode cX6_readLine 101 = .ok (.ireturn, 1) := by decide +kernel
theorem dX6_readLine_102 : decode cX6_readLine 102 = .ok (.aload_n 0, 1) := by decide +kernel
theorem dX6_readLine_103 : decode cX6_readLine 103 = .ok (.invokevirtual 90, 3) := by decide +kernel
theorem dX6_readLine_106 : decode cX6_readLine 106 = .ok (.ireturn, 1) := by decide +kernel
theorem dX6_readLine_107 : decode cX6_readLine 107 = .ok (.aload_n 0, 1) := by decide +kernel
theorem dX6_readLine_108 : decode cX6_readLine 108 = .ok (.iconst 1, 1) := by decide +kernel
theorem dX6_readLine_109 : decode cX6_readLine 109 = .ok (.invokevirtual 65, 3) := by decide +kernel
theorem dX6_readLine_112 : decode cX6_readLine 112 = .ok (.ireturn, 1) := by decide +kernel
theorem dX6_refuse_0 : decode cX6_refuse 0 = .ok (.aload_n 0, 1) := by decide +kernel
theorem dX6_refuse_1 : decode cX6_refuse 1 = .ok (.getfield 9, 3) := by decide +kernel
theorem dX6_refuse_4 : decode cX6_refuse 4 = .ok (.iload_n 1, 1) := by decide +kernel
theorem dX6_refuse_5 : decode cX6_refuse 5 = .ok (.invokevirtual 93, 3) := by decide +kernel
theorem dX6_refuse_8 : decode cX6_refuse 8 = .ok (.pop, 1) := by decide +kernel
theorem dX6_refuse_9 : decode cX6_refuse 9 = .ok (.iconst 0, 1) := by decide +kernel
theorem dX6_refuse_10 : decode cX6_refuse 10 = .ok (.ireturn, 1) := by decide +kernel
theorem dX6_readLane_0 : decode cX6_readLane 0 = .ok (.aload_n 0, 1) := by decide +kernel
theorem dX6_readLane_1 : decode cX6_readLane 1 = .ok (.getfield 35, 3) := by decide +kernel
theorem dX6_readLane_4 : decode cX6_readLane 4 = .ok (.ifCond .ne 23, 3) := by decide +kernel
theorem dX6_readLane_7 : decode cX6_readLane 7 = .ok (.aload_n 0, 1) := by decide +kernel
theorem dX6_readLane_8 : decode cX6_readLane 8 = .ok (.getfield 21, 3) := by decide +kernel
theorem dX6_readLane_11 : decode cX6_readLane 11 = .ok (.getfield 96, 3) := by decide +kernel
theorem dX6_readLane_14 : decode cX6_readLane 14 = .ok (.ifCond .gt 13, 3) := by decide +kernel
theorem dX6_readLane_17 : decode cX6_readLane 17 = .ok (.aload_n 0, 1) := by decide +kernel
theorem dX6_readLane_18 : decode cX6_readLane 18 = .ok (.getfield 21, 3) := by decide +kernel
theorem dX6_readLane_21 : decode cX6_readLane 21 = .ok (.getfield 99, 3) := by decide +kernel
theorem dX6_readLane_24 : decode cX6_readLane 24 = .ok (.ifCond .le 9, 3) := by decide +kernel
theorem dX6_readLane_27 : decode cX6_readLane 27 = .ok (.aload_n 0, 1) := by decide +kernel
theorem dX6_readLane_28 : decode cX6_readLane 28 = .ok (.iconst 3, 1) := by decide +kernel
theorem dX6_readLane_29 : decode cX6_readLane 29 = .ok (.invokevirtual 65, 3) := by decide +kernel
theorem dX6_readLane_32 : decode cX6_readLane 32 = .ok (.ireturn, 1) := by decide +kernel
theorem dX6_readLane_33 : decode cX6_readLane 33 = .ok (.aload_n 0, 1) := by decide +kernel
theorem dX6_readLane_34 : decode cX6_readLane 34 = .ok (.iconst 1, 1) := by decide +kernel
theorem dX6_readLane_35 : decode cX6_readLane 35 = .ok (.putfield 35, 3) := by decide +kernel
theorem dX6_readLane_38 : decode cX6_readLane 38 = .ok (.aload_n 0, 1) := by decide +kernel
theorem dX6_readLane_39 : decode cX6_readLane 39 = .ok (.getfield 21, 3) := by decide +kernel
theorem dX6_readLane_42 : decode cX6_readLane 42 = .ok (.aload_n 0, 1) := by decide +kernel
theorem dX6_readLane_43 : decode cX6_readLane 43 = .ok (.getfield 9, 3) := by decide +kernel
theorem dX6_readLane_46 : decode cX6_readLane 46 = .ok (.iconst 2, 1) := by decide +kernel
theorem dX6_readLane_47 : decode cX6_readLane 47 = .ok (.bipush 20, 2) := by decide +kernel
theorem dX6_readLane_49 : decode cX6_readLane 49 = .ok (.invokevirtual 102, 3) := by decide +kernel
theorem dX6_readLane_52 : decode cX6_readLane 52 = .ok (.putfield 106, 3) := by decide +kernel
theorem dX6_readLane_55 : decode cX6_readLane 55 = .ok (.aload_n 0, 1) := by decide +kernel
theorem dX6_readLane_56 : decode cX6_readLane 56 = .ok (.getfield 21, 3) := by decide +kernel
theorem dX6_readLane_59 : decode cX6_readLane 59 = .ok (.getfield 106, 3) := by decide +kernel
theorem dX6_readLane_62 : decode cX6_readLane 62 = .ok (.iconst (-1), 1) := by decide +kernel
theorem dX6_readLane_63 : decode cX6_readLane 63 = .ok (.if_icmp .eq 7, 3) := by decide +kernel
theorem dX6_readLane_66 : decode cX6_readLane 66 = .ok (.iconst 1, 1) := by decide +kernel
theorem dX6_readLane_67 : decode cX6_readLane 67 = .ok (.goto 4, 3) := by decide +kernel
theorem dX6_readLane_70 : decode cX6_readLane 70 = .ok (.iconst 0, 1) := by decide +kernel
theorem dX6_readLane_71 : decode cX6_readLane 71 = .ok (.ireturn, 1) := by decide +kernel
theorem dX6_readEar_0 : decode cX6_readEar 0 = .ok (.aload_n 0, 1) := by decide +kernel
theorem dX6_readEar_1 : decode cX6_readEar 1 = .ok (.getfield 39, 3) := by decide +kernel
theorem dX6_readEar_4 : decode cX6_readEar 4 = .ok (.ifCond .eq 9, 3) := by decide +kernel
theorem dX6_readEar_7 : decode cX6_readEar 7 = .ok (.aload_n 0, 1) := by decide +kernel
theorem dX6_readEar_8 : decode cX6_readEar 8 = .ok (.iconst 3, 1) := by decide +kernel
theorem dX6_readEar_9 : decode cX6_readEar 9 = .ok (.invokevirtual 65, 3) := by decide +kernel
theorem dX6_readEar_12 : decode cX6_readEar 12 = .ok (.ireturn, 1) := by decide +kernel
theorem dX6_readEar_13 : decode cX6_readEar 13 = .ok (.aload_n 0, 1) := by decide +kernel
theorem dX6_readEar_14 : decode cX6_readEar 14 = .ok (.iconst 1, 1) := by decide +kernel
theorem dX6_readEar_15 : decode cX6_readEar 15 = .ok (.putfield 39, 3) := by decide +kernel
theorem dX6_readEar_18 : decode cX6_readEar 18 = .ok (.aload_n 0, 1) := by decide +kernel
theorem dX6_readEar_19 : decode cX6_readEar 19 = .ok (.getfield 21, 3) := by decide +kernel
theorem dX6_readEar_22 : decode cX6_readEar 22 = .ok (.aload_n 0, 1) := by decide +kernel
theorem dX6_readEar_23 : decode cX6_readEar 23 = .ok (.getfield 9, 3) := by decide +kernel
theorem dX6_readEar_26 : decode cX6_readEar 26 = .ok (.iconst 0, 1) := by decide +kernel
theorem dX6_readEar_27 : decode cX6_readEar 27 = .ok (.bipush 9, 2) := by decide +kernel
theorem dX6_readEar_29 : decode cX6_readEar 29 = .ok (.invokevirtual 102, 3) := by decide +kernel
theorem dX6_readEar_32 : decode cX6_readEar 32 = .ok (.putfield 109, 3) := by decide +kernel
theorem dX6_readEar_35 : decode cX6_readEar 35 = .ok (.aload_n 0, 1) := by decide +kernel
theorem dX6_readEar_36 : decode cX6_readEar 36 = .ok (.getfield 21, 3) := by decide +kernel
theorem dX6_readEar_39 : decode cX6_readEar 39 = .ok (.getfield 109, 3) := by decide +kernel
theorem dX6_readEar_42 : decode cX6_readEar 42 = .ok (.iconst (-1), 1) := by decide +kernel
theorem dX6_readEar_43 : decode cX6_readEar 43 = .ok (.if_icmp .eq 7, 3) := by decide +kernel
theorem dX6_readEar_46 : decode cX6_readEar 46 = .ok (.iconst 1, 1) := by decide +kernel
theorem dX6_readEar_47 : decode cX6_readEar 47 = .ok (.goto 4, 3) := by decide +kernel
theorem dX6_readEar_50 : decode cX6_readEar 50 = .ok (.iconst 0, 1) := by decide +kernel
theorem dX6_readEar_51 : decode cX6_readEar 51 = .ok (.ireturn, 1) := by decide +kernel
theorem dX6_readStay_0 : decode cX6_readStay 0 = .ok (.aload_n 0, 1) := by decide +kernel
theorem dX6_readStay_1 : decode cX6_readStay 1 = .ok (.getfield 42, 3) := by decide +kernel
theorem dX6_readStay_4 : decode cX6_readStay 4 = .ok (.ifCond .eq 9, 3) := by decide +kernel
theorem dX6_readStay_7 : decode cX6_readStay 7 = .ok (.aload_n 0, 1) := by decide +kernel
theorem dX6_readStay_8 : decode cX6_readStay 8 = .ok (.iconst 3, 1) := by decide +kernel
theorem dX6_readStay_9 : decode cX6_readStay 9 = .ok (.invokevirtual 65, 3) := by decide +kernel
theorem dX6_readStay_12 : decode cX6_readStay 12 = .ok (.ireturn, 1) := by decide +kernel
theorem dX6_readStay_13 : decode cX6_readStay 13 = .ok (.aload_n 0, 1) := by decide +kernel
theorem dX6_readStay_14 : decode cX6_readStay 14 = .ok (.iconst 1, 1) := by decide +kernel
theorem dX6_readStay_15 : decode cX6_readStay 15 = .ok (.putfield 42, 3) := by decide +kernel
theorem dX6_readStay_18 : decode cX6_readStay 18 = .ok (.aload_n 0, 1) := by decide +kernel
theorem dX6_readStay_19 : decode cX6_readStay 19 = .ok (.getfield 21, 3) := by decide +kernel
theorem dX6_readStay_22 : decode cX6_readStay 22 = .ok (.aload_n 0, 1) := by decide +kernel
theorem dX6_readStay_23 : decode cX6_readStay 23 = .ok (.getfield 9, 3) := by decide +kernel
theorem dX6_readStay_26 : decode cX6_readStay 26 = .ok (.iconst 1, 1) := by decide +kernel
theorem dX6_readStay_27 : decode cX6_readStay 27 = .ok (.bipush 30, 2) := by decide +kernel
theorem dX6_readStay_29 : decode cX6_readStay 29 = .ok (.invokevirtual 102, 3) := by decide +kernel
theorem dX6_readStay_32 : decode cX6_readStay 32 = .ok (.putfield 112, 3) := by decide +kernel
theorem dX6_readStay_35 : decode cX6_readStay 35 = .ok (.aload_n 0, 1) := by decide +kernel
theorem dX6_readStay_36 : decode cX6_readStay 36 = .ok (.getfield 21, 3) := by decide +kernel
theorem dX6_readStay_39 : decode cX6_readStay 39 = .ok (.getfield 112, 3) := by decide +kernel
theorem dX6_readStay_42 : decode cX6_readStay 42 = .ok (.iconst (-1), 1) := by decide +kernel
theorem dX6_readStay_43 : decode cX6_readStay 43 = .ok (.if_icmp .eq 7, 3) := by decide +kernel
theorem dX6_readStay_46 : decode cX6_readStay 46 = .ok (.iconst 1, 1) := by decide +kernel
theorem dX6_readStay_47 : decode cX6_readStay 47 = .ok (.goto 4, 3) := by decide +kernel
theorem dX6_readStay_50 : decode cX6_readStay 50 = .ok (.iconst 0, 1) := by decide +kernel
theorem dX6_readStay_51 : decode cX6_readStay 51 = .ok (.ireturn, 1) := by decide +kernel
theorem dX6_readHouse_0 : decode cX6_readHouse 0 = .ok (.aload_n 0, 1) := by decide +kernel
theorem dX6_readHouse_1 : decode cX6_readHouse 1 = .ok (.getfield 21, 3) := by decide +kernel
theorem dX6_readHouse_4 : decode cX6_readHouse 4 = .ok (.getfield 96, 3) := by decide +kernel
theorem dX6_readHouse_7 : decode cX6_readHouse 7 = .ok (.bipush 6, 2) := by decide +kernel
theorem dX6_readHouse_9 : decode cX6_readHouse 9 = .ok (.if_icmp .lt 9, 3) := by decide +kernel
theorem dX6_readHouse_12 : decode cX6_readHouse 12 = .ok (.aload_n 0, 1) := by decide +kernel
theorem dX6_readHouse_13 : decode cX6_readHouse 13 = .ok (.iconst 4, 1) := by decide +kernel
theorem dX6_readHouse_14 : decode cX6_readHouse 14 = .ok (.invokevirtual 65, 3) := by decide +kernel
theorem dX6_readHouse_17 : decode cX6_readHouse 17 = .ok (.ireturn, 1) := by decide +kernel
theorem dX6_readHouse_18 : decode cX6_readHouse 18 = .ok (.aload_n 0, 1) := by decide +kernel
theorem dX6_readHouse_19 : decode cX6_readHouse 19 = .ok (.getfield 9, 3) := by decide +kernel
theorem dX6_readHouse_22 : decode cX6_readHouse 22 = .ok (.aload_n 0, 1) := by decide +kernel
theorem dX6_readHouse_23 : decode cX6_readHouse 23 = .ok (.getfield 21, 3) := by decide +kernel
theorem dX6_readHouse_26 : decode cX6_readHouse 26 = .ok (.invokevirtual 115, 3) := by decide +kernel
theorem dX6_readHouse_29 : decode cX6_readHouse 29 = .ok (.lstore_n 1, 1) := by decide +kernel
theorem dX6_readHouse_30 : decode cX6_readHouse 30 = .ok (.lload_n 1, 1) := by decide +kernel
theorem dX6_readHouse_31 : decode cX6_readHouse 31 = .ok (.lconst 0, 1) := by decide +kernel
theorem dX6_readHouse_32 : decode cX6_readHouse 32 = .ok (.lcmp, 1) := by decide +kernel
theorem dX6_readHouse_33 : decode cX6_readHouse 33 = .ok (.ifCond .ne 5, 3) := by decide +kernel
theorem dX6_readHouse_36 : decode cX6_readHouse 36 = .ok (.iconst 0, 1) := by decide +kernel
theorem dX6_readHouse_37 : decode cX6_readHouse 37 = .ok (.ireturn, 1) := by decide +kernel
theorem dX6_readHouse_38 : decode cX6_readHouse 38 = .ok (.aload_n 0, 1) := by decide +kernel
theorem dX6_readHouse_39 : decode cX6_readHouse 39 = .ok (.getfield 9, 3) := by decide +kernel
theorem dX6_readHouse_42 : decode cX6_readHouse 42 = .ok (.iconst 0, 1) := by decide +kernel
theorem dX6_readHouse_43 : decode cX6_readHouse 43 = .ok (.aload_n 0, 1) := by decide +kernel
theorem dX6_readHouse_44 : decode cX6_readHouse 44 = .ok (.getfield 21, 3) := by decide +kernel
theorem dX6_readHouse_47 : decode cX6_readHouse 47 = .ok (.getfield 106, 3) := by decide +kernel
theorem dX6_readHouse_50 : decode cX6_readHouse 50 = .ok (.iconst 1, 1) := by decide +kernel
theorem dX6_readHouse_51 : decode cX6_readHouse 51 = .ok (.isub, 1) := by decide +kernel
theorem dX6_readHouse_52 : decode cX6_readHouse 52 = .ok (.invokevirtual 102, 3) := by decide +kernel
theorem dX6_readHouse_55 : decode cX6_readHouse 55 = .ok (.istore_n 3, 1) := by decide +kernel
theorem dX6_readHouse_56 : decode cX6_readHouse 56 = .ok (.iload_n 3, 1) := by decide +kernel
theorem dX6_readHouse_57 : decode cX6_readHouse 57 = .ok (.iconst (-1), 1) := by decide +kernel
theorem dX6_readHouse_58 : decode cX6_readHouse 58 = .ok (.if_icmp .ne 5, 3) := by decide +kernel
theorem dX6_readHouse_61 : decode cX6_readHouse 61 = .ok (.iconst 0, 1) := by decide +kernel
theorem dX6_readHouse_62 : decode cX6_readHouse 62 = .ok (.ireturn, 1) := by decide +kernel
theorem dX6_readHouse_63 : decode cX6_readHouse 63 = .ok (.aload_n 0, 1) := by decide +kernel
theorem dX6_readHouse_64 : decode cX6_readHouse 64 = .ok (.getfield 21, 3) := by decide +kernel
theorem dX6_readHouse_67 : decode cX6_readHouse 67 = .ok (.lload_n 1, 1) := by decide +kernel
theorem dX6_readHouse_68 : decode cX6_readHouse 68 = .ok (.iload_n 3, 1) := by decide +kernel
theorem dX6_readHouse_69 : decode cX6_readHouse 69 = .ok (.invokevirtual 119, 3) := by decide +kernel
theorem dX6_readHouse_72 : decode cX6_readHouse 72 = .ok (.iconst 1, 1) := by decide +kernel
theorem dX6_readHouse_73 : decode cX6_readHouse 73 = .ok (.ireturn, 1) := by decide +kernel
theorem dX6_readPerson_0 : decode cX6_readPerson 0 = .ok (.aload_n 0, 1) := by decide +kernel
theorem dX6_readPerson_1 : decode cX6_readPerson 1 = .ok (.getfield 21, 3) := by decide +kernel
theorem dX6_readPerson_4 : decode cX6_readPerson 4 = .ok (.getfield 99, 3) := by decide +kernel
theorem dX6_readPerson_7 : decode cX6_readPerson 7 = .ok (.bipush 8, 2) := by decide +kernel
theorem dX6_readPerson_9 : decode cX6_readPerson 9 = .ok (.if_icmp .lt 9, 3) := by decide +kernel
theorem dX6_readPerson_12 : decode cX6_readPerson 12 = .ok (.aload_n 0, 1) := by decide +kernel
theorem dX6_readPerson_13 : decode cX6_readPerson 13 = .ok (.iconst 4, 1) := by decide +kernel
theorem dX6_readPerson_14 : decode cX6_readPerson 14 = .ok (.invokevirtual 65, 3) := by decide +kernel
theorem dX6_readPerson_17 : decode cX6_readPerson 17 = .ok (.ireturn, 1) := by decide +kernel
theorem dX6_readPerson_18 : decode cX6_readPerson 18 = .ok (.aload_n 0, 1) := by decide +kernel
theorem dX6_readPerson_19 : decode cX6_readPerson 19 = .ok (.getfield 9, 3) := by decide +kernel
theorem dX6_readPerson_22 : decode cX6_readPerson 22 = .ok (.aload_n 0, 1) := by decide +kernel
theorem dX6_readPerson_23 : decode cX6_readPerson 23 = .ok (.getfield 21, 3) := by decide +kernel
theorem dX6_readPerson_26 : decode cX6_readPerson 26 = .ok (.invokevirtual 115, 3) := by decide +kernel
theorem dX6_readPerson_29 : decode cX6_readPerson 29 = .ok (.lstore_n 1, 1) := by decide +kernel
theorem dX6_readPerson_30 : decode cX6_readPerson 30 = .ok (.lload_n 1, 1) := by decide +kernel
theorem dX6_readPerson_31 : decode cX6_readPerson 31 = .ok (.lconst 0, 1) := by decide +kernel
theorem dX6_readPerson_32 : decode cX6_readPerson 32 = .ok (.lcmp, 1) := by decide +kernel
theorem dX6_readPerson_33 : decode cX6_readPerson 33 = .ok (.ifCond .ne 5, 3) := by decide +kernel
theorem dX6_readPerson_36 : decode cX6_readPerson 36 = .ok (.iconst 0, 1) := by decide +kernel
theorem dX6_readPerson_37 : decode cX6_readPerson 37 = .ok (.ireturn, 1) := by decide +kernel
theorem dX6_readPerson_38 : decode cX6_readPerson 38 = .ok (.aload_n 0, 1) := by decide +kernel
theorem dX6_readPerson_39 : decode cX6_readPerson 39 = .ok (.getfield 9, 3) := by decide +kernel
theorem dX6_readPerson_42 : decode cX6_readPerson 42 = .ok (.invokevirtual 123, 3) := by decide +kernel
theorem dX6_readPerson_45 : decode cX6_readPerson 45 = .ok (.aload_n 0, 1) := by decide +kernel
theorem dX6_readPerson_46 : decode cX6_readPerson 46 = .ok (.getfield 9, 3) := by decide +kernel
theorem dX6_readPerson_49 : decode cX6_readPerson 49 = .ok (.iconst 3, 1) := by decide +kernel
theorem dX6_readPerson_50 : decode cX6_readPerson 50 = .ok (.invokevirtual 126, 3) := by decide +kernel
theorem dX6_readPerson_53 : decode cX6_readPerson 53 = .ok (.istore_n 3, 1) := by decide +kernel
theorem dX6_readPerson_54 : decode cX6_readPerson 54 = .ok (.iload_n 3, 1) := by decide +kernel
theorem dX6_readPerson_55 : decode cX6_readPerson 55 = .ok (.ifCond .eq 7, 3) := by decide +kernel
theorem dX6_readPerson_58 : decode cX6_readPerson 58 = .ok (.iconst (-1), 1) := by decide +kernel
theorem dX6_readPerson_59 : decode cX6_readPerson 59 = .ok (.goto 14, 3) := by decide +kernel
theorem dX6_readPerson_62 : decode cX6_readPerson 62 = .ok (.aload_n 0, 1) := by decide +kernel
theorem dX6_readPerson_63 : decode cX6_readPerson 63 = .ok (.getfield 9, 3) := by decide +kernel
theorem dX6_readPerson_66 : decode cX6_readPerson 66 = .ok (.aload_n 0, 1) := by decide +kernel
theorem dX6_readPerson_67 : decode cX6_readPerson 67 = .ok (.getfield 21, 3) := by decide +kernel
theorem dX6_readPerson_70 : decode cX6_readPerson 70 = .ok (.invokevirtual 129, 3) := by decide +kernel
theorem dX6_readPerson_73 : decode cX6_readPerson 73 = .ok (.istore 4, 2) := by decide +kernel
theorem dX6_readPerson_75 : decode cX6_readPerson 75 = .ok (.iload_n 3, 1) := by decide +kernel
theorem dX6_readPerson_76 : decode cX6_readPerson 76 = .ok (.ifCond .ne 11, 3) := by decide +kernel
theorem dX6_readPerson_79 : decode cX6_readPerson 79 = .ok (.iload 4, 2) := by decide +kernel
theorem dX6_readPerson_81 : decode cX6_readPerson 81 = .ok (.iconst (-1), 1) := by decide +kernel
theorem dX6_readPerson_82 : decode cX6_readPerson 82 = .ok (.if_icmp .ne 5, 3) := by decide +kernel
theorem dX6_readPerson_85 : decode cX6_readPerson 85 = .ok (.iconst 0, 1) := by decide +kernel
theorem dX6_readPerson_86 : decode cX6_readPerson 86 = .ok (.ireturn, 1) := by decide +kernel
theorem dX6_readPerson_87 : decode cX6_readPerson 87 = .ok (.aload_n 0, 1) := by decide +kernel
theorem dX6_readPerson_88 : decode cX6_readPerson 88 = .ok (.getfield 9, 3) := by decide +kernel
theorem dX6_readPerson_91 : decode cX6_readPerson 91 = .ok (.iconst 0, 1) := by decide +kernel
theorem dX6_readPerson_92 : decode cX6_readPerson 92 = .ok (.aload_n 0, 1) := by decide +kernel
theorem dX6_readPerson_93 : decode cX6_readPerson 93 = .ok (.getfield 21, 3) := by decide +kernel
theorem dX6_readPerson_96 : decode cX6_readPerson 96 = .ok (.getfield 106, 3) := by decide +kernel
theorem dX6_readPerson_99 : decode cX6_readPerson 99 = .ok (.iconst 1, 1) := by decide +kernel
theorem dX6_readPerson_100 : decode cX6_readPerson 100 = .ok (.isub, 1) := by decide +kernel
theorem dX6_readPerson_101 : decode cX6_readPerson 101 = .ok (.invokevirtual 102, 3) := by decide +kernel
theorem dX6_readPerson_104 : decode cX6_readPerson 104 = .ok (.istore 5, 2) := by decide +kernel
theorem dX6_readPerson_106 : decode cX6_readPerson 106 = .ok (.iload 5, 2) := by decide +kernel
theorem dX6_readPerson_108 : decode cX6_readPerson 108 = .ok (.iconst (-1), 1) := by decide +kernel
theorem dX6_readPerson_109 : decode cX6_readPerson 109 = .ok (.if_icmp .ne 7, 3) := by decide +kernel
theorem dX6_readPerson_112 : decode cX6_readPerson 112 = .ok (.iconst (-1), 1) := by decide +kernel
theorem dX6_readPerson_113 : decode cX6_readPerson 113 = .ok (.goto 14, 3) := by decide +kernel
theorem dX6_readPerson_116 : decode cX6_readPerson 116 = .ok (.aload_n 0, 1) := by decide +kernel
theorem dX6_readPerson_117 : decode cX6_readPerson 117 = .ok (.getfield 9, 3) := by decide +kernel
theorem dX6_readPerson_120 : decode cX6_readPerson 120 = .ok (.bipush 8, 2) := by decide +kernel
theorem dX6_readPerson_122 : decode cX6_readPerson 122 = .ok (.bipush 10, 2) := by decide +kernel
theorem dX6_readPerson_124 : decode cX6_readPerson 124 = .ok (.invokevirtual 133, 3) := by decide +kernel
theorem dX6_readPerson_127 : decode cX6_readPerson 127 = .ok (.istore 6, 2) := by decide +kernel
theorem dX6_readPerson_129 : decode cX6_readPerson 129 = .ok (.iload 6, 2) := by decide +kernel
theorem dX6_readPerson_131 : decode cX6_readPerson 131 = .ok (.iconst (-1), 1) := by decide +kernel
theorem dX6_readPerson_132 : decode cX6_readPerson 132 = .ok (.if_icmp .ne 7, 3) := by decide +kernel
theorem dX6_readPerson_135 : decode cX6_readPerson 135 = .ok (.iconst (-1), 1) := by decide +kernel
theorem dX6_readPerson_136 : decode cX6_readPerson 136 = .ok (.goto 14, 3) := by decide +kernel
theorem dX6_readPerson_139 : decode cX6_readPerson 139 = .ok (.aload_n 0, 1) := by decide +kernel
theorem dX6_readPerson_140 : decode cX6_readPerson 140 = .ok (.getfield 9, 3) := by decide +kernel
theorem dX6_readPerson_143 : decode cX6_readPerson 143 = .ok (.bipush 11, 2) := by decide +kernel
theorem dX6_readPerson_145 : decode cX6_readPerson 145 = .ok (.bipush 12, 2) := by decide +kernel
theorem dX6_readPerson_147 : decode cX6_readPerson 147 = .ok (.invokevirtual 133, 3) := by decide +kernel
theorem dX6_readPerson_150 : decode cX6_readPerson 150 = .ok (.istore 7, 2) := by decide +kernel
theorem dX6_readPerson_152 : decode cX6_readPerson 152 = .ok (.iload 7, 2) := by decide +kernel
theorem dX6_readPerson_154 : decode cX6_readPerson 154 = .ok (.iconst (-1), 1) := by decide +kernel
theorem dX6_readPerson_155 : decode cX6_readPerson 155 = .ok (.if_icmp .ne 5, 3) := by decide +kernel
theorem dX6_readPerson_158 : decode cX6_readPerson 158 = .ok (.iconst 0, 1) := by decide +kernel
theorem dX6_readPerson_159 : decode cX6_readPerson 159 = .ok (.ireturn, 1) := by decide +kernel
theorem dX6_readPerson_160 : decode cX6_readPerson 160 = .ok (.aload_n 0, 1) := by decide +kernel
theorem dX6_readPerson_161 : decode cX6_readPerson 161 = .ok (.getfield 21, 3) := by decide +kernel
theorem dX6_readPerson_164 : decode cX6_readPerson 164 = .ok (.lload_n 1, 1) := by decide +kernel
theorem dX6_readPerson_165 : decode cX6_readPerson 165 = .ok (.iload 4, 2) := by decide +kernel
theorem dX6_readPerson_167 : decode cX6_readPerson 167 = .ok (.iload 7, 2) := by decide +kernel
theorem dX6_readPerson_169 : decode cX6_readPerson 169 = .ok (.invokevirtual 136, 3) := by decide +kernel
theorem dX6_readPerson_172 : decode cX6_readPerson 172 = .ok (.aload_n 0, 1) := by decide +kernel
theorem dX6_readPerson_173 : decode cX6_readPerson 173 = .ok (.getfield 26, 3) := by decide +kernel
theorem dX6_readPerson_176 : decode cX6_readPerson 176 = .ok (.aload_n 0, 1) := by decide +kernel
theorem dX6_readPerson_177 : decode cX6_readPerson 177 = .ok (.getfield 21, 3) := by decide +kernel
theorem dX6_readPerson_180 : decode cX6_readPerson 180 = .ok (.getfield 99, 3) := by decide +kernel
theorem dX6_readPerson_183 : decode cX6_readPerson 183 = .ok (.iconst 1, 1) := by decide +kernel
theorem dX6_readPerson_184 : decode cX6_readPerson 184 = .ok (.isub, 1) := by decide +kernel
theorem dX6_readPerson_185 : decode cX6_readPerson 185 = .ok (.iload 5, 2) := by decide +kernel
theorem dX6_readPerson_187 : decode cX6_readPerson 187 = .ok (.iload 6, 2) := by decide +kernel
theorem dX6_readPerson_189 : decode cX6_readPerson 189 = .ok (.invokevirtual 140, 3) := by decide +kernel
theorem dX6_readPerson_192 : decode cX6_readPerson 192 = .ok (.iconst 1, 1) := by decide +kernel
theorem dX6_readPerson_193 : decode cX6_readPerson 193 = .ok (.ireturn, 1) := by decide +kernel
theorem dX6_readKnows_0 : decode cX6_readKnows 0 = .ok (.aload_n 0, 1) := by decide +kernel
theorem dX6_readKnows_1 : decode cX6_readKnows 1 = .ok (.getfield 9, 3) := by decide +kernel
theorem dX6_readKnows_4 : decode cX6_readKnows 4 = .ok (.aload_n 0, 1) := by decide +kernel
theorem dX6_readKnows_5 : decode cX6_readKnows 5 = .ok (.getfield 21, 3) := by decide +kernel
theorem dX6_readKnows_8 : decode cX6_readKnows 8 = .ok (.invokevirtual 143, 3) := by decide +kernel
theorem dX6_readKnows_11 : decode cX6_readKnows 11 = .ok (.istore_n 1, 1) := by decide +kernel
theorem dX6_readKnows_12 : decode cX6_readKnows 12 = .ok (.iload_n 1, 1) := by decide +kernel
theorem dX6_readKnows_13 : decode cX6_readKnows 13 = .ok (.iconst (-1), 1) := by decide +kernel
theorem dX6_readKnows_14 : decode cX6_readKnows 14 = .ok (.if_icmp .ne 7, 3) := by decide +kernel
theorem dX6_readKnows_17 : decode cX6_readKnows 17 = .ok (.iconst (-1), 1) := by decide +kernel
theorem dX6_readKnows_18 : decode cX6_readKnows 18 = .ok (.goto 14, 3) := by decide +kernel
theorem dX6_readKnows_21 : decode cX6_readKnows 21 = .ok (.aload_n 0, 1) := by decide +kernel
theorem dX6_readKnows_22 : decode cX6_readKnows 22 = .ok (.getfield 9, 3) := by decide +kernel
theorem dX6_readKnows_25 : decode cX6_readKnows 25 = .ok (.aload_n 0, 1) := by decide +kernel
theorem dX6_readKnows_26 : decode cX6_readKnows 26 = .ok (.getfield 21, 3) := by decide +kernel
theorem dX6_readKnows_29 : decode cX6_readKnows 29 = .ok (.invokevirtual 143, 3) := by decide +kernel
theorem dX6_readKnows_32 : decode cX6_readKnows 32 = .ok (.istore_n 2, 1) := by decide +kernel
theorem dX6_readKnows_33 : decode cX6_readKnows 33 = .ok (.iload_n 2, 1) := by decide +kernel
theorem dX6_readKnows_34 : decode cX6_readKnows 34 = .ok (.iconst (-1), 1) := by decide +kernel
theorem dX6_readKnows_35 : decode cX6_readKnows 35 = .ok (.if_icmp .ne 5, 3) := by decide +kernel
theorem dX6_readKnows_38 : decode cX6_readKnows 38 = .ok (.iconst 0, 1) := by decide +kernel
theorem dX6_readKnows_39 : decode cX6_readKnows 39 = .ok (.ireturn, 1) := by decide +kernel
theorem dX6_readKnows_40 : decode cX6_readKnows 40 = .ok (.aload_n 0, 1) := by decide +kernel
theorem dX6_readKnows_41 : decode cX6_readKnows 41 = .ok (.getfield 26, 3) := by decide +kernel
theorem dX6_readKnows_44 : decode cX6_readKnows 44 = .ok (.iload_n 1, 1) := by decide +kernel
theorem dX6_readKnows_45 : decode cX6_readKnows 45 = .ok (.iload_n 2, 1) := by decide +kernel
theorem dX6_readKnows_46 : decode cX6_readKnows 46 = .ok (.invokevirtual 146, 3) := by decide +kernel
theorem dX6_readKnows_49 : decode cX6_readKnows 49 = .ok (.ifCond .eq 11, 3) := by decide +kernel
theorem dX6_readKnows_52 : decode cX6_readKnows 52 = .ok (.aload_n 0, 1) := by decide +kernel
theorem dX6_readKnows_53 : decode cX6_readKnows 53 = .ok (.iconst 3, 1) := by decide +kernel
theorem dX6_readKnows_54 : decode cX6_readKnows 54 = .ok (.invokevirtual 65, 3) := by decide +kernel
theorem dX6_readKnows_57 : decode cX6_readKnows 57 = .ok (.ifCond .eq 7, 3) := by decide +kernel
theorem dX6_readKnows_60 : decode cX6_readKnows 60 = .ok (.iconst 1, 1) := by decide +kernel
theorem dX6_readKnows_61 : decode cX6_readKnows 61 = .ok (.goto 4, 3) := by decide +kernel
theorem dX6_readKnows_64 : decode cX6_readKnows 64 = .ok (.iconst 0, 1) := by decide +kernel
theorem dX6_readKnows_65 : decode cX6_readKnows 65 = .ok (.ireturn, 1) := by decide +kernel
theorem dX6_readCalls_0 : decode cX6_readCalls 0 = .ok (.aload_n 0, 1) := by decide +kernel
theorem dX6_readCalls_1 : decode cX6_readCalls 1 = .ok (.getfield 26, 3) := by decide +kernel
theorem dX6_readCalls_4 : decode cX6_readCalls 4 = .ok (.getfield 149, 3) := by decide +kernel
theorem dX6_readCalls_7 : decode cX6_readCalls 7 = .ok (.bipush 12, 2) := by decide +kernel
theorem dX6_readCalls_9 : decode cX6_readCalls 9 = .ok (.if_icmp .lt 9, 3) := by decide +kernel
theorem dX6_readCalls_12 : decode cX6_readCalls 12 = .ok (.aload_n 0, 1) := by decide +kernel
theorem dX6_readCalls_13 : decode cX6_readCalls 13 = .ok (.iconst 4, 1) := by decide +kernel
theorem dX6_readCalls_14 : decode cX6_readCalls 14 = .ok (.invokevirtual 65, 3) := by decide +kernel
theorem dX6_readCalls_17 : decode cX6_readCalls 17 = .ok (.ireturn, 1) := by decide +kernel
theorem dX6_readCalls_18 : decode cX6_readCalls 18 = .ok (.aload_n 0, 1) := by decide +kernel
theorem dX6_readCalls_19 : decode cX6_readCalls 19 = .ok (.getfield 9, 3) := by decide +kernel
theorem dX6_readCalls_22 : decode cX6_readCalls 22 = .ok (.aload_n 0, 1) := by decide +kernel
theorem dX6_readCalls_23 : decode cX6_readCalls 23 = .ok (.getfield 21, 3) := by decide +kernel
theorem dX6_readCalls_26 : decode cX6_readCalls 26 = .ok (.invokevirtual 143, 3) := by decide +kernel
theorem dX6_readCalls_29 : decode cX6_readCalls 29 = .ok (.istore_n 1, 1) := by decide +kernel
theorem dX6_readCalls_30 : decode cX6_readCalls 30 = .ok (.iload_n 1, 1) := by decide +kernel
theorem dX6_readCalls_31 : decode cX6_readCalls 31 = .ok (.iconst (-1), 1) := by decide +kernel
theorem dX6_readCalls_32 : decode cX6_readCalls 32 = .ok (.if_icmp .ne 7, 3) := by decide +kernel
theorem dX6_readCalls_35 : decode cX6_readCalls 35 = .ok (.iconst (-1), 1) := by decide +kernel
theorem dX6_readCalls_36 : decode cX6_readCalls 36 = .ok (.goto 14, 3) := by decide +kernel
theorem dX6_readCalls_39 : decode cX6_readCalls 39 = .ok (.aload_n 0, 1) := by decide +kernel
theorem dX6_readCalls_40 : decode cX6_readCalls 40 = .ok (.getfield 9, 3) := by decide +kernel
theorem dX6_readCalls_43 : decode cX6_readCalls 43 = .ok (.aload_n 0, 1) := by decide +kernel
theorem dX6_readCalls_44 : decode cX6_readCalls 44 = .ok (.getfield 21, 3) := by decide +kernel
theorem dX6_readCalls_47 : decode cX6_readCalls 47 = .ok (.invokevirtual 152, 3) := by decide +kernel
theorem dX6_readCalls_50 : decode cX6_readCalls 50 = .ok (.istore_n 2, 1) := by decide +kernel
theorem dX6_readCalls_51 : decode cX6_readCalls 51 = .ok (.iload_n 2, 1) := by decide +kernel
theorem dX6_readCalls_52 : decode cX6_readCalls 52 = .ok (.iconst (-1), 1) := by decide +kernel
theorem dX6_readCalls_53 : decode cX6_readCalls 53 = .ok (.if_icmp .ne 5, 3) := by decide +kernel
theorem dX6_readCalls_56 : decode cX6_readCalls 56 = .ok (.iconst 0, 1) := by decide +kernel
theorem dX6_readCalls_57 : decode cX6_readCalls 57 = .ok (.ireturn, 1) := by decide +kernel
theorem dX6_readCalls_58 : decode cX6_readCalls 58 = .ok (.aload_n 0, 1) := by decide +kernel
theorem dX6_readCalls_59 : decode cX6_readCalls 59 = .ok (.getfield 26, 3) := by decide +kernel
theorem dX6_readCalls_62 : decode cX6_readCalls 62 = .ok (.iload_n 1, 1) := by decide +kernel
theorem dX6_readCalls_63 : decode cX6_readCalls 63 = .ok (.iload_n 2, 1) := by decide +kernel
theorem dX6_readCalls_64 : decode cX6_readCalls 64 = .ok (.invokevirtual 155, 3) := by decide +kernel
theorem dX6_readCalls_67 : decode cX6_readCalls 67 = .ok (.ifCond .eq 11, 3) := by decide +kernel
theorem dX6_readCalls_70 : decode cX6_readCalls 70 = .ok (.aload_n 0, 1) := by decide +kernel
theorem dX6_readCalls_71 : decode cX6_readCalls 71 = .ok (.iconst 3, 1) := by decide +kernel
theorem dX6_readCalls_72 : decode cX6_readCalls 72 = .ok (.invokevirtual 65, 3) := by decide +kernel
theorem dX6_readCalls_75 : decode cX6_readCalls 75 = .ok (.ifCond .eq 7, 3) := by decide +kernel
theorem dX6_readCalls_78 : decode cX6_readCalls 78 = .ok (.iconst 1, 1) := by decide +kernel
theorem dX6_readCalls_79 : decode cX6_readCalls 79 = .ok (.goto 4, 3) := by decide +kernel
theorem dX6_readCalls_82 : decode cX6_readCalls 82 = .ok (.iconst 0, 1) := by decide +kernel
theorem dX6_readCalls_83 : decode cX6_readCalls 83 = .ok (.ireturn, 1) := by decide +kernel
theorem dX7_init_0 : decode cX7_init 0 = .ok (.aload_n 0, 1) := by decide +kernel
theorem dX7_init_1 : decode cX7_init 1 = .ok (.invokespecial 3, 3) := by decide +kernel
theorem dX7_init_4 : decode cX7_init 4 = .ok (.aload_n 0, 1) := by decide +kernel
theorem dX7_init_5 : decode cX7_init 5 = .ok (.bipush 40, 2) := by decide +kernel
theorem dX7_init_7 : decode cX7_init 7 = .ok (.newarray .int, 2) := by decide +kernel
theorem dX7_init_9 : decode cX7_init 9 = .ok (.putfield 11, 3) := by decide +kernel
theorem dX7_init_12 : decode cX7_init 12 = .ok (.aload_n 0, 1) := by decide +kernel
theorem dX7_init_13 : decode cX7_init 13 = .ok (.bipush 40, 2) := by decide +kernel
theorem dX7_init_15 : decode cX7_init 15 = .ok (.newarray .int, 2) := by decide +kernel
theorem dX7_init_17 : decode cX7_init 17 = .ok (.putfield 15, 3) := by decide +kernel
theorem dX7_init_20 : decode cX7_init 20 = .ok (.aload_n 0, 1) := by decide +kernel
theorem dX7_init_21 : decode cX7_init 21 = .ok (.bipush 40, 2) := by decide +kernel
theorem dX7_init_23 : decode cX7_init 23 = .ok (.newarray .int, 2) := by decide +kernel
theorem dX7_init_25 : decode cX7_init 25 = .ok (.putfield 18, 3) := by decide +kernel
theorem dX7_init_28 : decode cX7_init 28 = .ok (.aload_n 0, 1) := by decide +kernel
theorem dX7_init_29 : decode cX7_init 29 = .ok (.bipush 40, 2) := by decide +kernel
theorem dX7_init_31 : decode cX7_init 31 = .ok (.newarray .int, 2) := by decide +kernel
theorem dX7_init_33 : decode cX7_init 33 = .ok (.putfield 21, 3) := by decide +kernel
theorem dX7_init_36 : decode cX7_init 36 = .ok (.return_, 1) := by decide +kernel
theorem dX7_clear_0 : decode cX7_clear 0 = .ok (.aload_n 0, 1) := by decide +kernel
theorem dX7_clear_1 : decode cX7_clear 1 = .ok (.iconst 0, 1) := by decide +kernel
theorem dX7_clear_2 : decode cX7_clear 2 = .ok (.putfield 24, 3) := by decide +kernel
theorem dX7_clear_5 : decode cX7_clear 5 = .ok (.aload_n 0, 1) := by decide +kernel
theorem dX7_clear_6 : decode cX7_clear 6 = .ok (.iconst 0, 1) := by decide +kernel
theorem dX7_clear_7 : decode cX7_clear 7 = .ok (.putfield 28, 3) := by decide +kernel
theorem dX7_clear_10 : decode cX7_clear 10 = .ok (.return_, 1) := by decide +kernel
theorem dX7_copyFrom_0 : decode cX7_copyFrom 0 = .ok (.aload_n 0, 1) := by decide +kernel
theorem dX7_copyFrom_1 : decode cX7_copyFrom 1 = .ok (.aload_n 1, 1) := by decide +kernel
theorem dX7_copyFrom_2 : decode cX7_copyFrom 2 = .ok (.getfield 24, 3) := by decide +kernel
theorem dX7_copyFrom_5 : decode cX7_copyFrom 5 = .ok (.putfield 24, 3) := by decide +kernel
theorem dX7_copyFrom_8 : decode cX7_copyFrom 8 = .ok (.aload_n 0, 1) := by decide +kernel
theorem dX7_copyFrom_9 : decode cX7_copyFrom 9 = .ok (.aload_n 1, 1) := by decide +kernel
theorem dX7_copyFrom_10 : decode cX7_copyFrom 10 = .ok (.getfield 28, 3) := by decide +kernel
theorem dX7_copyFrom_13 : decode cX7_copyFrom 13 = .ok (.putfield 28, 3) := by decide +kernel
theorem dX7_copyFrom_16 : decode cX7_copyFrom 16 = .ok (.aload_n 1, 1) := by decide +kernel
theorem dX7_copyFrom_17 : decode cX7_copyFrom 17 = .ok (.getfield 11, 3) := by decide +kernel
theorem dX7_copyFrom_20 : decode cX7_copyFrom 20 = .ok (.iconst 0, 1) := by decide +kernel
theorem dX7_copyFrom_21 : decode cX7_copyFrom 21 = .ok (.aload_n 0, 1) := by decide +kernel
theorem dX7_copyFrom_22 : decode cX7_copyFrom 22 = .ok (.getfield 11, 3) := by decide +kernel
theorem dX7_copyFrom_25 : decode cX7_copyFrom 25 = .ok (.iconst 0, 1) := by decide +kernel
theorem dX7_copyFrom_26 : decode cX7_copyFrom 26 = .ok (.bipush 40, 2) := by decide +kernel
theorem dX7_copyFrom_28 : decode cX7_copyFrom 28 = .ok (.invokestatic 31, 3) := by decide +kernel
theorem dX7_copyFrom_31 : decode cX7_copyFrom 31 = .ok (.aload_n 1, 1) := by decide +kernel
theorem dX7_copyFrom_32 : decode cX7_copyFrom 32 = .ok (.getfield 15, 3) := by decide +kernel
theorem dX7_copyFrom_35 : decode cX7_copyFrom 35 = .ok (.iconst 0, 1) := by decide +kernel
theorem dX7_copyFrom_36 : decode cX7_copyFrom 36 = .ok (.aload_n 0, 1) := by decide +kernel
theorem dX7_copyFrom_37 : decode cX7_copyFrom 37 = .ok (.getfield 15, 3) := by decide +kernel
theorem dX7_copyFrom_40 : decode cX7_copyFrom 40 = .ok (.iconst 0, 1) := by decide +kernel
theorem dX7_copyFrom_41 : decode cX7_copyFrom 41 = .ok (.bipush 40, 2) := by decide +kernel
theorem dX7_copyFrom_43 : decode cX7_copyFrom 43 = .ok (.invokestatic 31, 3) := by decide +kernel
theorem dX7_copyFrom_46 : decode cX7_copyFrom 46 = .ok (.aload_n 1, 1) := by decide +kernel
theorem dX7_copyFrom_47 : decode cX7_copyFrom 47 = .ok (.getfield 18, 3) := by decide +kernel
theorem dX7_copyFrom_50 : decode cX7_copyFrom 50 = .ok (.iconst 0, 1) := by decide +kernel
theorem dX7_copyFrom_51 : decode cX7_copyFrom 51 = .ok (.aload_n 0, 1) := by decide +kernel
theorem dX7_copyFrom_52 : decode cX7_copyFrom 52 = .ok (.getfield 18, 3) := by decide +kernel
theorem dX7_copyFrom_55 : decode cX7_copyFrom 55 = .ok (.iconst 0, 1) := by decide +kernel
theorem dX7_copyFrom_56 : decode cX7_copyFrom 56 = .ok (.bipush 40, 2) := by decide +kernel
theorem dX7_copyFrom_58 : decode cX7_copyFrom 58 = .ok (.invokestatic 31, 3) := by decide +kernel
theorem dX7_copyFrom_61 : decode cX7_copyFrom 61 = .ok (.return_, 1) := by decide +kernel
theorem dX7_readAll_0 : decode cX7_readAll 0 = .ok (.aload_n 0, 1) := by decide +kernel
theorem dX7_readAll_1 : decode cX7_readAll 1 = .ok (.invokevirtual 37, 3) := by decide +kernel
theorem dX7_readAll_4 : decode cX7_readAll 4 = .ok (.aload_n 1, 1) := by decide +kernel
theorem dX7_readAll_5 : decode cX7_readAll 5 = .ok (.sipush 200, 3) := by decide +kernel
theorem dX7_readAll_8 : decode cX7_readAll 8 = .ok (.invokevirtual 40, 3) := by decide +kernel
theorem dX7_readAll_11 : decode cX7_readAll 11 = .ok (.aload_n 0, 1) := by decide +kernel
theorem dX7_readAll_12 : decode cX7_readAll 12 = .ok (.aload_n 1, 1) := by decide +kernel
theorem dX7_readAll_13 : decode cX7_readAll 13 = .ok (.aload_n 2, 1) := by decide +kernel
theorem dX7_readAll_14 : decode cX7_readAll 14 = .ok (.iconst 1, 1) := by decide +kernel
theorem dX7_readAll_15 : decode cX7_readAll 15 = .ok (.invokevirtual 46, 3) := by decide +kernel
theorem dX7_readAll_18 : decode cX7_readAll 18 = .ok (.ifCond .ne 5, 3) := by decide +kernel
theorem dX7_readAll_21 : decode cX7_readAll 21 = .ok (.iconst 0, 1) := by decide +kernel
theorem dX7_readAll_22 : decode cX7_readAll 22 = .ok (.ireturn, 1) := by decide +kernel
theorem dX7_readAll_23 : decode cX7_readAll 23 = .ok (.aload_n 1, 1) := by decide +kernel
theorem dX7_readAll_24 : decode cX7_readAll 24 = .ok (.invokevirtual 50, 3) := by decide +kernel
theorem dX7_readAll_27 : decode cX7_readAll 27 = .ok (.ifCond .ne 11, 3) := by decide +kernel
theorem dX7_readAll_30 : decode cX7_readAll 30 = .ok (.aload_n 1, 1) := by decide +kernel
theorem dX7_readAll_31 : decode cX7_readAll 31 = .ok (.iconst 1, 1) := by decide +kernel
theorem dX7_readAll_32 : decode cX7_readAll 32 = .ok (.invokestatic 54, 3) := by decide +kernel
theorem dX7_readAll_35 : decode cX7_readAll 35 = .ok (.ifCond .eq 7, 3) := by decide +kernel
theorem dX7_readAll_38 : decode cX7_readAll 38 = .ok (.iconst 1, 1) := by decide +kernel
theorem dX7_readAll_39 : decode cX7_readAll 39 = .ok (.goto 4, 3) := by decide +kernel
theorem dX7_readAll_42 : decode cX7_readAll 42 = .ok (.iconst 0, 1) := by decide +kernel
theorem dX7_readAll_43 : decode cX7_readAll 43 = .ok (.ireturn, 1) := by decide +kernel
theorem dX7_refuse_0 : decode cX7_refuse 0 = .ok (.aload_n 0, 1) := by decide +kernel
theorem dX7_refuse_1 : decode cX7_refuse 1 = .ok (.iload_n 1, 1) := by decide +kernel
theorem dX7_refuse_2 : decode cX7_refuse 2 = .ok (.invokevirtual 58, 3) := by decide +kernel
theorem dX7_refuse_5 : decode cX7_refuse 5 = .ok (.pop, 1) := by decide +kernel
theorem dX7_refuse_6 : decode cX7_refuse 6 = .ok (.iconst 0, 1) := by decide +kernel
theorem dX7_refuse_7 : decode cX7_refuse 7 = .ok (.ireturn, 1) := by decide +kernel
theorem dX7_readCond_0 : decode cX7_readCond 0 = .ok (.iconst 0, 1) := by decide +kernel
theorem dX7_readCond_1 : decode cX7_readCond 1 = .ok (.istore 4, 2) := by decide +kernel
theorem dX7_readCond_3 : decode cX7_readCond 3 = .ok (.iconst 0, 1) := by decide +kernel
theorem dX7_readCond_4 : decode cX7_readCond 4 = .ok (.istore 5, 2) := by decide +kernel
theorem dX7_readCond_6 : decode cX7_readCond 6 = .ok (.iconst 0, 1) := by decide +kernel
theorem dX7_readCond_7 : decode cX7_readCond 7 = .ok (.istore 6, 2) := by decide +kernel
theorem dX7_readCond_9 : decode cX7_readCond 9 = .ok (.iload 6, 2) := by decide +kernel
theorem dX7_readCond_11 : decode cX7_readCond 11 = .ok (.sipush 200, 3) := by decide +kernel
theorem dX7_readCond_14 : decode cX7_readCond 14 = .ok (.if_icmp .ge 79, 3) := by decide +kernel
theorem dX7_readCond_17 : decode cX7_readCond 17 = .ok (.aload_n 0, 1) := by decide +kernel
theorem dX7_readCond_18 : decode cX7_readCond 18 = .ok (.aload_n 1, 1) := by decide +kernel
theorem dX7_readCond_19 : decode cX7_readCond 19 = .ok (.aload_n 2, 1) := by decide +kernel
theorem dX7_readCond_20 : decode cX7_readCond 20 = .ok (.iload_n 3, 1) := by decide +kernel
theorem dX7_readCond_21 : decode cX7_readCond 21 = .ok (.invokevirtual 61, 3) := by decide +kernel
theorem dX7_readCond_24 : decode cX7_readCond 24 = .ok (.ifCond .ne 5, 3) := by decide +kernel
theorem dX7_readCond_27 : decode cX7_readCond 27 = .ok (.iconst 0, 1) := by decide +kernel
theorem dX7_readCond_28 : decode cX7_readCond 28 = .ok (.ireturn, 1) := by decide +kernel
theorem dX7_readCond_29 : decode cX7_readCond 29 = .ok (.iload 4, 2) := by decide +kernel
theorem dX7_readCond_31 : decode cX7_readCond 31 = .ok (.ifCond .eq 11, 3) := by decide +kernel
theorem dX7_readCond_34 : decode cX7_readCond 34 = .ok (.aload_n 0, 1) := by decide +kernel
theorem dX7_readCond_35 : decode cX7_readCond 35 = .ok (.bipush 19, 2) := by decide +kernel
theorem dX7_readCond_37 : decode cX7_readCond 37 = .ok (.iconst 0, 1) := by decide +kernel
theorem dX7_readCond_38 : decode cX7_readCond 38 = .ok (.iconst 0, 1) := by decide +kernel
theorem dX7_readCond_39 : decode cX7_readCond 39 = .ok (.invokevirtual 64, 3) := by decide +kernel
theorem dX7_readCond_42 : decode cX7_readCond 42 = .ok (.aload_n 1, 1) := by decide +kernel
theorem dX7_readCond_43 : decode cX7_readCond 43 = .ok (.bipush 19, 2) := by decide +kernel
theorem dX7_readCond_45 : decode cX7_readCond 45 = .ok (.invokevirtual 68, 3) := by decide +kernel
theorem dX7_readCond_48 : decode cX7_readCond 48 = .ok (.istore 4, 2) := by decide +kernel
theorem dX7_readCond_50 : decode cX7_readCond 50 = .ok (.iload 4, 2) := by decide +kernel
theorem dX7_readCond_52 : decode cX7_readCond 52 = .ok (.ifCond .ne 31, 3) := by decide +kernel
theorem dX7_readCond_55 : decode cX7_readCond 55 = .ok (.iload 5, 2) := by decide +kernel
theorem dX7_readCond_57 : decode cX7_readCond 57 = .ok (.ifCond .eq 11, 3) := by decide +kernel
theorem dX7_readCond_60 : decode cX7_readCond 60 = .ok (.aload_n 0, 1) := by decide +kernel
theorem dX7_readCond_61 : decode cX7_readCond 61 = .ok (.bipush 18, 2) := by decide +kernel
theorem dX7_readCond_63 : decode cX7_readCond 63 = .ok (.iconst 0, 1) := by decide +kernel
theorem dX7_readCond_64 : decode cX7_readCond 64 = .ok (.iconst 0, 1) := by decide +kernel
theorem dX7_readCond_65 : decode cX7_readCond 65 = .ok (.invokevirtual 64, 3) := by decide +kernel
theorem dX7_readCond_68 : decode cX7_readCond 68 = .ok (.aload_n 1, 1) := by decide +kernel
theorem dX7_readCond_69 : decode cX7_readCond 69 = .ok (.bipush 18, 2) := by decide +kernel
theorem dX7_readCond_71 : decode cX7_readCond 71 = .ok (.invokevirtual 68, 3) := by decide +kernel
theorem dX7_readCond_74 : decode cX7_readCond 74 = .ok (.istore 5, 2) := by decide +kernel
theorem dX7_readCond_76 : decode cX7_readCond 76 = .ok (.iload 5, 2) := by decide +kernel
theorem dX7_readCond_78 : decode cX7_readCond 78 = .ok (.ifCond .ne 5, 3) := by decide +kernel
theorem dX7_readCond_81 : decode cX7_readCond 81 = .ok (.iconst 1, 1) := by decide +kernel
theorem dX7_readCond_82 : decode cX7_readCond 82 = .ok (.ireturn, 1) := by decide +kernel
theorem dX7_readCond_83 : decode cX7_readCond 83 = .ok (.aload_n 1, 1) := by decide +kernel
theorem dX7_readCond_84 : decode cX7_readCond 84 = .ok (.invokevirtual 72, 3) := by decide +kernel
theorem dX7_readCond_87 : decode cX7_readCond 87 = .ok (.iinc 6 1, 3) := by decide +kernel
theorem dX7_readCond_90 : decode cX7_readCond 90 = .ok (.goto (-81), 3) := by decide +kernel
theorem dX7_readCond_93 : decode cX7_readCond 93 = .ok (.aload_n 1, 1) := by decide +kernel
theorem dX7_readCond_94 : decode cX7_readCond 94 = .ok (.iconst 1, 1) := by decide +kernel
theorem dX7_readCond_95 : decode cX7_readCond 95 = .ok (.invokestatic 54, 3) := by decide +kernel
theorem dX7_readCond_98 : decode cX7_readCond 98 = .ok (.ireturn, 1) := by decide +kernel
theorem dX7_readOne_0 : decode cX7_readOne 0 = .ok (.aload_n 1, 1) := by decide +kernel
theorem dX7_readOne_1 : decode cX7_readOne 1 = .ok (.bipush 40, 2) := by decide +kernel
theorem dX7_readOne_3 : decode cX7_readOne 3 = .ok (.invokevirtual 75, 3) := by decide +kernel
theorem dX7_readOne_6 : decode cX7_readOne 6 = .ok (.istore 4, 2) := by decide +kernel
theorem dX7_readOne_8 : decode cX7_readOne 8 = .ok (.aload_n 1, 1) := by decide +kernel
theorem dX7_readOne_9 : decode cX7_readOne 9 = .ok (.getfield 79, 3) := by decide +kernel
theorem dX7_readOne_12 : decode cX7_readOne 12 = .ok (.iconst 1, 1) := by decide +kernel
theorem dX7_readOne_13 : decode cX7_readOne 13 = .ok (.if_icmp .ne 10, 3) := by decide +kernel
theorem dX7_readOne_16 : decode cX7_readOne 16 = .ok (.aload_n 1, 1) := by decide +kernel
theorem dX7_readOne_17 : decode cX7_readOne 17 = .ok (.getfield 82, 3) := by decide +kernel
theorem dX7_readOne_20 : decode cX7_readOne 20 = .ok (.goto 4, 3) := by decide +kernel
theorem dX7_readOne_23 : decode cX7_readOne 23 = .ok (.iconst (-1), 1) := by decide +kernel
theorem dX7_readOne_24 : decode cX7_readOne 24 = .ok (.istore 5, 2) := by decide +kernel
theorem dX7_readOne_26 : decode cX7_readOne 26 = .ok (.iload 4, 2) := by decide +kernel
theorem dX7_readOne_28 : decode cX7_readOne 28 = .ok (.ifCond .ne 17, 3) := by decide +kernel
theorem dX7_readOne_31 : decode cX7_readOne 31 = .ok (.iload 5, 2) := by decide +kernel
theorem dX7_readOne_33 : decode cX7_readOne 33 = .ok (.invokestatic 85, 3) := by decide +kernel
theorem dX7_readOne_36 : decode cX7_readOne 36 = .ok (.ifCond .ne 9, 3) := by decide +kernel
theorem dX7_readOne_39 : decode cX7_readOne 39 = .ok (.aload_n 1, 1) := by decide +kernel
theorem dX7_readOne_40 : decode cX7_readOne 40 = .ok (.iconst 1, 1) := by decide +kernel
theorem dX7_readOne_41 : decode cX7_readOne 41 = .ok (.invokestatic 54, 3) := by decide +kernel
theorem dX7_readOne_44 : decode cX7_readOne 44 = .ok (.ireturn, 1) := by decide +kernel
theorem dX7_readOne_45 : decode cX7_readOne 45 = .ok (.aload_n 0, 1) := by decide +kernel
theorem dX7_readOne_46 : decode cX7_readOne 46 = .ok (.getfield 24, 3) := by decide +kernel
theorem dX7_readOne_49 : decode cX7_readOne 49 = .ok (.bipush 20, 2) := by decide +kernel
theorem dX7_readOne_51 : decode cX7_readOne 51 = .ok (.if_icmp .ge 9, 3) := by decide +kernel
theorem dX7_readOne_54 : decode cX7_readOne 54 = .ok (.iload_n 3, 1) := by decide +kernel
theorem dX7_readOne_55 : decode cX7_readOne 55 = .ok (.bipush 8, 2) := by decide +kernel
theorem dX7_readOne_57 : decode cX7_readOne 57 = .ok (.if_icmp .le 9, 3) := by decide +kernel
theorem dX7_readOne_60 : decode cX7_readOne 60 = .ok (.aload_n 1, 1) := by decide +kernel
theorem dX7_readOne_61 : decode cX7_readOne 61 = .ok (.iconst 4, 1) := by decide +kernel
theorem dX7_readOne_62 : decode cX7_readOne 62 = .ok (.invokestatic 54, 3) := by decide +kernel
theorem dX7_readOne_65 : decode cX7_readOne 65 = .ok (.ireturn, 1) := by decide +kernel
theorem dX7_readOne_66 : decode cX7_readOne 66 = .ok (.aload_n 0, 1) := by decide +kernel
theorem dX7_readOne_67 : decode cX7_readOne 67 = .ok (.dup, 1) := by decide +kernel
theorem dX7_readOne_68 : decode cX7_readOne 68 = .ok (.getfield 24, 3) := by decide +kernel
theorem dX7_readOne_71 : decode cX7_readOne 71 = .ok (.iconst 1, 1) := by decide +kernel
theorem dX7_readOne_72 : decode cX7_readOne 72 = .ok (.iadd, 1) := by decide +kernel
theorem dX7_readOne_73 : decode cX7_readOne 73 = .ok (.putfield 24, 3) := by decide +kernel
theorem dX7_readOne_76 : decode cX7_readOne 76 = .ok (.iload 4, 2) := by decide +kernel
theorem dX7_readOne_78 : decode cX7_readOne 78 = .ok (.ifCond .eq 11, 3) := by decide +kernel
theorem dX7_readOne_81 : decode cX7_readOne 81 = .ok (.aload_n 0, 1) := by decide +kernel
theorem dX7_readOne_82 : decode cX7_readOne 82 = .ok (.aload_n 1, 1) := by decide +kernel
theorem dX7_readOne_83 : decode cX7_readOne 83 = .ok (.aload_n 2, 1) := by decide +kernel
theorem dX7_readOne_84 : decode cX7_readOne 84 = .ok (.iload_n 3, 1) := by decide +kernel
theorem dX7_readOne_85 : decode cX7_readOne 85 = .ok (.invokevirtual 88, 3) := by decide +kernel
theorem dX7_readOne_88 : decode cX7_readOne 88 = .ok (.ireturn, 1) := by decide +kernel
theorem dX7_readOne_89 : decode cX7_readOne 89 = .ok (.iload 5, 2) := by decide +kernel
theorem dX7_readOne_91 : decode cX7_readOne 91 = .ok (.bipush 20, 2) := by decide +kernel
theorem dX7_readOne_93 : decode cX7_readOne 93 = .ok (.if_icmp .ne 13, 3) := by decide +kernel
theorem dX7_readOne_96 : decode cX7_readOne 96 = .ok (.aload_n 0, 1) := by decide +kernel
theorem dX7_readOne_97 : decode cX7_readOne 97 = .ok (.aload_n 1, 1) := by decide +kernel
theorem dX7_readOne_98 : decode cX7_readOne 98 = .ok (.aload_n 2, 1) := by decide +kernel
theorem dX7_readOne_99 : decode cX7_readOne 99 = .ok (.iload_n 3, 1) := by decide +kernel
theorem dX7_readOne_100 : decode cX7_readOne 100 = .ok (.invokevirtual 91, 3) := by decide +kernel
theorem dX7_readOne_103 : decode cX7_readOne 103 = .ok (.goto 11, 3) := by decide +kernel
theorem dX7_readOne_106 : decode cX7_readOne 106 = .ok (.aload_n 0, 1) := by decide +kernel
theorem dX7_readOne_107 : decode cX7_readOne 107 = .ok (.aload_n 1, 1) := by decide +kernel
theorem dX7_readOne_108 : decode cX7_readOne 108 = .ok (.aload_n 2, 1) := by decide +kernel
theorem dX7_readOne_109 : decode cX7_readOne 109 = .ok (.iload 5, 2) := by decide +kernel
theorem dX7_readOne_111 : decode cX7_readOne 111 = .ok (.invokevirtual 94, 3) := by decide +kernel
theorem dX7_readOne_114 : decode cX7_readOne 114 = .ok (.ireturn, 1) := by decide +kernel
theorem dX7_canBeginOne_0 : decode cX7_canBeginOne 0 = .ok (.iload_n 0, 1) := by decide +kernel
theorem dX7_canBeginOne_1 : decode cX7_canBeginOne 1 = .ok (.bipush 12, 2) := by decide +kernel
theorem dX7_canBeginOne_3 : decode cX7_canBeginOne 3 = .ok (.if_icmp .eq 20, 3) := by decide +kernel
theorem dX7_canBeginOne_6 : decode cX7_canBeginOne 6 = .ok (.iload_n 0, 1) := by decide +kernel
theorem dX7_canBeginOne_7 : decode cX7_canBeginOne 7 = .ok (.iconst 4, 1) := by decide +kernel
theorem dX7_canBeginOne_8 : decode cX7_canBeginOne 8 = .ok (.if_icmp .eq 15, 3) := by decide +kernel
theorem dX7_canBeginOne_11 : decode cX7_canBeginOne 11 = .ok (.iload_n 0, 1) := by decide +kernel
theorem dX7_canBeginOne_12 : decode cX7_canBeginOne 12 = .ok (.bipush 20, 2) := by decide +kernel
theorem dX7_canBeginOne_14 : decode cX7_canBeginOne 14 = .ok (.if_icmp .lt 13, 3) := by decide +kernel
theorem dX7_canBeginOne_17 : decode cX7_canBeginOne 17 = .ok (.iload_n 0, 1) := by decide +kernel
theorem dX7_canBeginOne_18 : decode cX7_canBeginOne 18 = .ok (.bipush 28, 2) := by decide +kernel
theorem dX7_canBeginOne_20 : decode cX7_canBeginOne 20 = .ok (.if_icmp .gt 7, 3) := by decide +kernel
theorem dX7_canBeginOne_23 : decode cX7_canBeginOne 23 = .ok (.iconst 1, 1) := by decide +kernel
theorem dX7_canBeginOne_24 : decode cX7_canBeginOne 24 = .ok (.goto 4, 3) := by decide +kernel
theorem dX7_canBeginOne_27 : decode cX7_canBeginOne 27 = .ok (.iconst 0, 1) := by decide +kernel
theorem dX7_canBeginOne_28 : decode cX7_canBeginOne 28 = .ok (.ireturn, 1) := by decide +kernel
theorem dX7_readBracket_0 : decode cX7_readBracket 0 = .ok (.aload_n 1, 1) := by decide +kernel
theorem dX7_readBracket_1 : decode cX7_readBracket 1 = .ok (.invokevirtual 72, 3) := by decide +kernel
theorem dX7_readBracket_4 : decode cX7_readBracket 4 = .ok (.aload_n 0, 1) := by decide +kernel
theorem dX7_readBracket_5 : decode cX7_readBracket 5 = .ok (.aload_n 1, 1) := by decide +kernel
theorem dX7_readBracket_6 : decode cX7_readBracket 6 = .ok (.aload_n 2, 1) := by decide +kernel
theorem dX7_readBracket_7 : decode cX7_readBracket 7 = .ok (.iload_n 3, 1) := by decide +kernel
theorem dX7_readBracket_8 : decode cX7_readBracket 8 = .ok (.iconst 1, 1) := by decide +kernel
theorem dX7_readBracket_9 : decode cX7_readBracket 9 = .ok (.iadd, 1) := by decide +kernel
theorem dX7_readBracket_10 : decode cX7_readBracket 10 = .ok (.invokevirtual 46, 3) := by decide +kernel
theorem dX7_readBracket_13 : decode cX7_readBracket 13 = .ok (.ifCond .ne 5, 3) := by decide +kernel
theorem dX7_readBracket_16 : decode cX7_readBracket 16 = .ok (.iconst 0, 1) := by decide +kernel
theorem dX7_readBracket_17 : decode cX7_readBracket 17 = .ok (.ireturn, 1) := by decide +kernel
theorem dX7_readBracket_18 : decode cX7_readBracket 18 = .ok (.aload_n 1, 1) := by decide +kernel
theorem dX7_readBracket_19 : decode cX7_readBracket 19 = .ok (.bipush 41, 2) := by decide +kernel
theorem dX7_readBracket_21 : decode cX7_readBracket 21 = .ok (.invokevirtual 75, 3) := by decide +kernel
theorem dX7_readBracket_24 : decode cX7_readBracket 24 = .ok (.ifCond .ne 9, 3) := by decide +kernel
theorem dX7_readBracket_27 : decode cX7_readBracket 27 = .ok (.aload_n 1, 1) := by decide +kernel
theorem dX7_readBracket_28 : decode cX7_readBracket 28 = .ok (.iconst 1, 1) := by decide +kernel
theorem dX7_readBracket_29 : decode cX7_readBracket 29 = .ok (.invokestatic 54, 3) := by decide +kernel
theorem dX7_readBracket_32 : decode cX7_readBracket 32 = .ok (.ireturn, 1) := by decide +kernel
theorem dX7_readBracket_33 : decode cX7_readBracket 33 = .ok (.aload_n 1, 1) := by decide +kernel
theorem dX7_readBracket_34 : decode cX7_readBracket 34 = .ok (.invokevirtual 72, 3) := by decide +kernel
theorem dX7_readBracket_37 : decode cX7_readBracket 37 = .ok (.iconst 1, 1) := by decide +kernel
theorem dX7_readBracket_38 : decode cX7_readBracket 38 = .ok (.ireturn, 1) := by decide +kernel
theorem dX7_readNot_0 : decode cX7_readNot 0 = .ok (.aload_n 1, 1) := by decide +kernel
theorem dX7_readNot_1 : decode cX7_readNot 1 = .ok (.invokevirtual 72, 3) := by decide +kernel
theorem dX7_readNot_4 : decode cX7_readNot 4 = .ok (.aload_n 0, 1) := by decide +kernel
theorem dX7_readNot_5 : decode cX7_readNot 5 = .ok (.aload_n 1, 1) := by decide +kernel
theorem dX7_readNot_6 : decode cX7_readNot 6 = .ok (.aload_n 2, 1) := by decide +kernel
theorem dX7_readNot_7 : decode cX7_readNot 7 = .ok (.iload_n 3, 1) := by decide +kernel
theorem dX7_readNot_8 : decode cX7_readNot 8 = .ok (.iconst 1, 1) := by decide +kernel
theorem dX7_readNot_9 : decode cX7_readNot 9 = .ok (.iadd, 1) := by decide +kernel
theorem dX7_readNot_10 : decode cX7_readNot 10 = .ok (.invokevirtual 61, 3) := by decide +kernel
theorem dX7_readNot_13 : decode cX7_readNot 13 = .ok (.ifCond .ne 5, 3) := by decide +kernel
theorem dX7_readNot_16 : decode cX7_readNot 16 = .ok (.iconst 0, 1) := by decide +kernel
theorem dX7_readNot_17 : decode cX7_readNot 17 = .ok (.ireturn, 1) := by decide +kernel
theorem dX7_readNot_18 : decode cX7_readNot 18 = .ok (.aload_n 0, 1) := by decide +kernel
theorem dX7_readNot_19 : decode cX7_readNot 19 = .ok (.bipush 20, 2) := by decide +kernel
theorem dX7_readNot_21 : decode cX7_readNot 21 = .ok (.iconst 0, 1) := by decide +kernel
theorem dX7_readNot_22 : decode cX7_readNot 22 = .ok (.iconst 0, 1) := by decide +kernel
theorem dX7_readNot_23 : decode cX7_readNot 23 = .ok (.invokevirtual 64, 3) := by decide +kernel
theorem dX7_readNot_26 : decode cX7_readNot 26 = .ok (.iconst 1, 1) := by decide +kernel
theorem dX7_readNot_27 : decode cX7_readNot 27 = .ok (.ireturn, 1) := by decide +kernel
theorem dX7_readPlainOne_0 : decode cX7_readPlainOne 0 = .ok (.iconst 0, 1) := by decide +kernel
theorem dX7_readPlainOne_1 : decode cX7_readPlainOne 1 = .ok (.istore 4, 2) := by decide +kernel
theorem dX7_readPlainOne_3 : decode cX7_readPlainOne 3 = .ok (.iconst 0, 1) := by decide +kernel
theorem dX7_readPlainOne_4 : decode cX7_readPlainOne 4 = .ok (.istore 5, 2) := by decide +kernel
theorem dX7_readPlainOne_6 : decode cX7_readPlainOne 6 = .ok (.iload_n 3, 1) := by decide +kernel
theorem dX7_readPlainOne_7 : decode cX7_readPlainOne 7 = .ok (.iconst 4, 1) := by decide +kernel
theorem dX7_readPlainOne_8 : decode cX7_readPlainOne 8 = .ok (.if_icmp .ne 13, 3) := by decide +kernel
theorem dX7_readPlainOne_11 : decode cX7_readPlainOne 11 = .ok (.aload_n 1, 1) := by decide +kernel
theorem dX7_readPlainOne_12 : decode cX7_readPlainOne 12 = .ok (.aload_n 2, 1) := by decide +kernel
theorem dX7_readPlainOne_13 : decode cX7_readPlainOne 13 = .ok (.invokevirtual 97, 3) := by decide +kernel
theorem dX7_readPlainOne_16 : decode cX7_readPlainOne 16 = .ok (.istore 4, 2) := by decide +kernel
theorem dX7_readPlainOne_18 : decode cX7_readPlainOne 18 = .ok (.goto 51, 3) := by decide +kernel
theorem dX7_readPlainOne_21 : decode cX7_readPlainOne 21 = .ok (.iload_n 3, 1) := by decide +kernel
theorem dX7_readPlainOne_22 : decode cX7_readPlainOne 22 = .ok (.bipush 24, 2) := by decide +kernel
theorem dX7_readPlainOne_24 : decode cX7_readPlainOne 24 = .ok (.if_icmp .ne 13, 3) := by decide +kernel
theorem dX7_readPlainOne_27 : decode cX7_readPlainOne 27 = .ok (.aload_n 1, 1) := by decide +kernel
theorem dX7_readPlainOne_28 : decode cX7_readPlainOne 28 = .ok (.aload_n 2, 1) := by decide +kernel
theorem dX7_readPlainOne_29 : decode cX7_readPlainOne 29 = .ok (.invokevirtual 101, 3) := by decide +kernel
theorem dX7_readPlainOne_32 : decode cX7_readPlainOne 32 = .ok (.istore 4, 2) := by decide +kernel
theorem dX7_readPlainOne_34 : decode cX7_readPlainOne 34 = .ok (.goto 35, 3) := by decide +kernel
theorem dX7_readPlainOne_37 : decode cX7_readPlainOne 37 = .ok (.iload_n 3, 1) := by decide +kernel
theorem dX7_readPlainOne_38 : decode cX7_readPlainOne 38 = .ok (.bipush 25, 2) := by decide +kernel
theorem dX7_readPlainOne_40 : decode cX7_readPlainOne 40 = .ok (.if_icmp .lt 29, 3) := by decide +kernel
theorem dX7_readPlainOne_43 : decode cX7_readPlainOne 43 = .ok (.aload_n 1, 1) := by decide +kernel
theorem dX7_readPlainOne_44 : decode cX7_readPlainOne 44 = .ok (.invokevirtual 104, 3) := by decide +kernel
theorem dX7_readPlainOne_47 : decode cX7_readPlainOne 47 = .ok (.istore 4, 2) := by decide +kernel
theorem dX7_readPlainOne_49 : decode cX7_readPlainOne 49 = .ok (.iload 4, 2) := by decide +kernel
theorem dX7_readPlainOne_51 : decode cX7_readPlainOne 51 = .ok (.iconst (-1), 1) := by decide +kernel
theorem dX7_readPlainOne_52 : decode cX7_readPlainOne 52 = .ok (.if_icmp .ne 7, 3) := by decide +kernel
theorem dX7_readPlainOne_55 : decode cX7_readPlainOne 55 = .ok (.iconst (-1), 1) := by decide +kernel
theorem dX7_readPlainOne_56 : decode cX7_readPlainOne 56 = .ok (.goto 11, 3) := by decide +kernel
theorem dX7_readPlainOne_59 : decode cX7_readPlainOne 59 = .ok (.aload_n 1, 1) := by decide +kernel
theorem dX7_readPlainOne_60 : decode cX7_readPlainOne 60 = .ok (.iconst 0, 1) := by decide +kernel
theorem dX7_readPlainOne_61 : decode cX7_readPlainOne 61 = .ok (.sipush 999, 3) := by decide +kernel
theorem dX7_readPlainOne_64 : decode cX7_readPlainOne 64 = .ok (.invokevirtual 108, 3) := by decide +kernel
theorem dX7_readPlainOne_67 : decode cX7_readPlainOne 67 = .ok (.istore 5, 2) := by decide +kernel
theorem dX7_readPlainOne_69 : decode cX7_readPlainOne 69 = .ok (.iload 4, 2) := by decide +kernel
theorem dX7_readPlainOne_71 : decode cX7_readPlainOne 71 = .ok (.iconst (-1), 1) := by decide +kernel
theorem dX7_readPlainOne_72 : decode cX7_readPlainOne 72 = .ok (.if_icmp .eq 9, 3) := by decide +kernel
theorem dX7_readPlainOne_75 : decode cX7_readPlainOne 75 = .ok (.iload 5, 2) := by decide +kernel
theorem dX7_readPlainOne_77 : decode cX7_readPlainOne 77 = .ok (.iconst (-1), 1) := by decide +kernel
theorem dX7_readPlainOne_78 : decode cX7_readPlainOne 78 = .ok (.if_icmp .ne 5, 3) := by decide +kernel
theorem dX7_readPlainOne_81 : decode cX7_readPlainOne 81 = .ok (.iconst 0, 1) := by decide +kernel
theorem dX7_readPlainOne_82 : decode cX7_readPlainOne 82 = .ok (.ireturn, 1) := by decide +kernel
theorem dX7_readPlainOne_83 : decode cX7_readPlainOne 83 = .ok (.aload_n 0, 1) := by decide +kernel
theorem dX7_readPlainOne_84 : decode cX7_readPlainOne 84 = .ok (.iload_n 3, 1) := by decide +kernel
theorem dX7_readPlainOne_85 : decode cX7_readPlainOne 85 = .ok (.iload 4, 2) := by decide +kernel
theorem dX7_readPlainOne_87 : decode cX7_readPlainOne 87 = .ok (.iload 5, 2) := by decide +kernel
theorem dX7_readPlainOne_89 : decode cX7_readPlainOne 89 = .ok (.invokevirtual 64, 3) := by decide +kernel
theorem dX7_readPlainOne_92 : decode cX7_readPlainOne 92 = .ok (.aload_n 1, 1) := by decide +kernel
theorem dX7_readPlainOne_93 : decode cX7_readPlainOne 93 = .ok (.invokevirtual 72, 3) := by decide +kernel
theorem dX7_readPlainOne_96 : decode cX7_readPlainOne 96 = .ok (.iconst 1, 1) := by decide +kernel
theorem dX7_readPlainOne_97 : decode cX7_readPlainOne 97 = .ok (.ireturn, 1) := by decide +kernel
theorem dX7_add_0 : decode cX7_add 0 = .ok (.aload_n 0, 1) := by decide +kernel
theorem dX7_add_1 : decode cX7_add 1 = .ok (.getfield 28, 3) := by decide +kernel
theorem dX7_add_4 : decode cX7_add 4 = .ok (.bipush 40, 2) := by decide +kernel
theorem dX7_add_6 : decode cX7_add 6 = .ok (.if_icmp .ge 43, 3) := by decide +kernel
theorem dX7_add_9 : decode cX7_add 9 = .ok (.aload_n 0, 1) := by decide +kernel
theorem dX7_add_10 : decode cX7_add 10 = .ok (.getfield 11, 3) := by decide +kernel
theorem dX7_add_13 : decode cX7_add 13 = .ok (.aload_n 0, 1) := by decide +kernel
theorem dX7_add_14 : decode cX7_add 14 = .ok (.getfield 28, 3) := by decide +kernel
theorem dX7_add_17 : decode cX7_add 17 = .ok (.iload_n 1, 1) := by decide +kernel
theorem dX7_add_18 : decode cX7_add 18 = .ok (.iastore, 1) := by decide +kernel
theorem dX7_add_19 : decode cX7_add 19 = .ok (.aload_n 0, 1) := by decide +kernel
theorem dX7_add_20 : decode cX7_add 20 = .ok (.getfield 15, 3) := by decide +kernel
theorem dX7_add_23 : decode cX7_add 23 = .ok (.aload_n 0, 1) := by decide +kernel
theorem dX7_add_24 : decode cX7_add 24 = .ok (.getfield 28, 3) := by decide +kernel
theorem dX7_add_27 : decode cX7_add 27 = .ok (.iload_n 2, 1) := by decide +kernel
theorem dX7_add_28 : decode cX7_add 28 = .ok (.iastore, 1) := by decide +kernel
theorem dX7_add_29 : decode cX7_add 29 = .ok (.aload_n 0, 1) := by decide +kernel
theorem dX7_add_30 : decode cX7_add 30 = .ok (.getfield 18, 3) := by decide +kernel
theorem dX7_add_33 : decode cX7_add 33 = .ok (.aload_n 0, 1) := by decide +kernel
theorem dX7_add_34 : decode cX7_add 34 = .ok (.getfield 28, 3) := by decide +kernel
theorem dX7_add_37 : decode cX7_add 37 = .ok (.iload_n 3, 1) := by decide +kernel
theorem dX7_add_38 : decode cX7_add 38 = .ok (.iastore, 1) := by decide +kernel
theorem dX7_add_39 : decode cX7_add 39 = .ok (.aload_n 0, 1) := by decide +kernel
theorem dX7_add_40 : decode cX7_add 40 = .ok (.dup, 1) := by decide +kernel
theorem dX7_add_41 : decode cX7_add 41 = .ok (.getfield 28, 3) := by decide +kernel
theorem dX7_add_44 : decode cX7_add 44 = .ok (.iconst 1, 1) := by decide +kernel
theorem dX7_add_45 : decode cX7_add 45 = .ok (.iadd, 1) := by decide +kernel
theorem dX7_add_46 : decode cX7_add 46 = .ok (.putfield 28, 3) := by decide +kernel
theorem dX7_add_49 : decode cX7_add 49 = .ok (.return_, 1) := by decide +kernel
theorem dX7_trueOf_0 : decode cX7_trueOf 0 = .ok (.aload_n 0, 1) := by decide +kernel
theorem dX7_trueOf_1 : decode cX7_trueOf 1 = .ok (.iconst 0, 1) := by decide +kernel
theorem dX7_trueOf_2 : decode cX7_trueOf 2 = .ok (.putfield 112, 3) := by decide +kernel
theorem dX7_trueOf_5 : decode cX7_trueOf 5 = .ok (.iconst 0, 1) := by decide +kernel
theorem dX7_trueOf_6 : decode cX7_trueOf 6 = .ok (.istore_n 2, 1) := by decide +kernel
theorem dX7_trueOf_7 : decode cX7_trueOf 7 = .ok (.iload_n 2, 1) := by decide +kernel
theorem dX7_trueOf_8 : decode cX7_trueOf 8 = .ok (.aload_n 0, 1) := by decide +kernel
theorem dX7_trueOf_9 : decode cX7_trueOf 9 = .ok (.getfield 28, 3) := by decide +kernel
theorem dX7_trueOf_12 : decode cX7_trueOf 12 = .ok (.if_icmp .ge 119, 3) := by decide +kernel
theorem dX7_trueOf_15 : decode cX7_trueOf 15 = .ok (.iload_n 2, 1) := by decide +kernel
theorem dX7_trueOf_16 : decode cX7_trueOf 16 = .ok (.bipush 40, 2) := by decide +kernel
theorem dX7_trueOf_18 : decode cX7_trueOf 18 = .ok (.if_icmp .ge 113, 3) := by decide +kernel
theorem dX7_trueOf_21 : decode cX7_trueOf 21 = .ok (.aload_n 0, 1) := by decide +kernel
theorem dX7_trueOf_22 : decode cX7_trueOf 22 = .ok (.getfield 11, 3) := by decide +kernel
theorem dX7_trueOf_25 : decode cX7_trueOf 25 = .ok (.iload_n 2, 1) := by decide +kernel
theorem dX7_trueOf_26 : decode cX7_trueOf 26 = .ok (.iaload, 1) := by decide +kernel
theorem dX7_trueOf_27 : decode cX7_trueOf 27 = .ok (.bipush 18, 2) := by decide +kernel
theorem dX7_trueOf_29 : decode cX7_trueOf 29 = .ok (.if_icmp .ne 19, 3) := by decide +kernel
theorem dX7_trueOf_32 : decode cX7_trueOf 32 = .ok (.aload_n 0, 1) := by decide +kernel
theorem dX7_trueOf_33 : decode cX7_trueOf 33 = .ok (.aload_n 0, 1) := by decide +kernel
theorem dX7_trueOf_34 : decode cX7_trueOf 34 = .ok (.invokevirtual 115, 3) := by decide +kernel
theorem dX7_trueOf_37 : decode cX7_trueOf 37 = .ok (.aload_n 0, 1) := by decide +kernel
theorem dX7_trueOf_38 : decode cX7_trueOf 38 = .ok (.invokevirtual 115, 3) := by decide +kernel
theorem dX7_trueOf_41 : decode cX7_trueOf 41 = .ok (.ior, 1) := by decide +kernel
theorem dX7_trueOf_42 : decode cX7_trueOf 42 = .ok (.invokevirtual 118, 3) := by decide +kernel
theorem dX7_trueOf_45 : decode cX7_trueOf 45 = .ok (.goto 80, 3) := by decide +kernel
theorem dX7_trueOf_48 : decode cX7_trueOf 48 = .ok (.aload_n 0, 1) := by decide +kernel
theorem dX7_trueOf_49 : decode cX7_trueOf 49 = .ok (.getfield 11, 3) := by decide +kernel
theorem dX7_trueOf_52 : decode cX7_trueOf 52 = .ok (.iload_n 2, 1) := by decide +kernel
theorem dX7_trueOf_53 : decode cX7_trueOf 53 = .ok (.iaload, 1) := by decide +kernel
theorem dX7_trueOf_54 : decode cX7_trueOf 54 = .ok (.bipush 19, 2) := by decide +kernel
theorem dX7_trueOf_56 : decode cX7_trueOf 56 = .ok (.if_icmp .ne 19, 3) := by decide +kernel
theorem dX7_trueOf_59 : decode cX7_trueOf 59 = .ok (.aload_n 0, 1) := by decide +kernel
theorem dX7_trueOf_60 : decode cX7_trueOf 60 = .ok (.aload_n 0, 1) := by decide +kernel
theorem dX7_trueOf_61 : decode cX7_trueOf 61 = .ok (.invokevirtual 115, 3) := by decide +kernel
theorem dX7_trueOf_64 : decode cX7_trueOf 64 = .ok (.aload_n 0, 1) := by decide +kernel
theorem dX7_trueOf_65 : decode cX7_trueOf 65 = .ok (.invokevirtual 115, 3) := by decide +kernel
theorem dX7_trueOf_68 : decode cX7_trueOf 68 = .ok (.iand, 1) := by decide +kernel
theorem dX7_trueOf_69 : decode cX7_trueOf 69 = .ok (.invokevirtual 118, 3) := by decide +kernel
theorem dX7_trueOf_72 : decode cX7_trueOf 72 = .ok (.goto 53, 3) := by decide +kernel
theorem dX7_trueOf_75 : decode cX7_trueOf 75 = .ok (.aload_n 0, 1) := by decide +kernel
theorem dX7_trueOf_76 : decode cX7_trueOf 76 = .ok (.getfield 11, 3) := by decide +kernel
theorem dX7_trueOf_79 : decode cX7_trueOf 79 = .ok (.iload_n 2, 1) := by decide +kernel
theorem dX7_trueOf_80 : decode cX7_trueOf 80 = .ok (.iaload, 1) := by decide +kernel
theorem dX7_trueOf_81 : decode cX7_trueOf 81 = .ok (.bipush 20, 2) := by decide +kernel
theorem dX7_trueOf_83 : decode cX7_trueOf 83 = .ok (.if_icmp .ne 16, 3) := by decide +kernel
theorem dX7_trueOf_86 : decode cX7_trueOf 86 = .ok (.aload_n 0, 1) := by decide +kernel
theorem dX7_trueOf_87 : decode cX7_trueOf 87 = .ok (.aload_n 0, 1) := by decide +kernel
theorem dX7_trueOf_88 : decode cX7_trueOf 88 = .ok (.invokevirtual 115, 3) := by decide +kernel
theorem dX7_trueOf_91 : decode cX7_trueOf 91 = .ok (.iconst (-1), 1) := by decide +kernel
theorem dX7_trueOf_92 : decode cX7_trueOf 92 = .ok (.ixor, 1) := by decide +kernel
theorem dX7_trueOf_93 : decode cX7_trueOf 93 = .ok (.invokevirtual 118, 3) := by decide +kernel
theorem dX7_trueOf_96 : decode cX7_trueOf 96 = .ok (.goto 29, 3) := by decide +kernel
theorem dX7_trueOf_99 : decode cX7_trueOf 99 = .ok (.aload_n 0, 1) := by decide +kernel
theorem dX7_trueOf_100 : decode cX7_trueOf 100 = .ok (.aload_n 1, 1) := by decide +kernel
theorem dX7_trueOf_101 : decode cX7_trueOf 101 = .ok (.aload_n 0, 1) := by decide +kernel
theorem dX7_trueOf_102 : decode cX7_trueOf 102 = .ok (.getfield 11, 3) := by decide +kernel
theorem dX7_trueOf_105 : decode cX7_trueOf 105 = .ok (.iload_n 2, 1) := by decide +kernel
theorem dX7_trueOf_106 : decode cX7_trueOf 106 = .ok (.iaload, 1) := by decide +kernel
theorem dX7_trueOf_107 : decode cX7_trueOf 107 = .ok (.aload_n 0, 1) := by decide +kernel
theorem dX7_trueOf_108 : decode cX7_trueOf 108 = .ok (.getfield 15, 3) := by decide +kernel
theorem dX7_trueOf_111 : decode cX7_trueOf 111 = .ok (.iload_n 2, 1) := by decide +kernel
theorem dX7_trueOf_112 : decode cX7_trueOf 112 = .ok (.iaload, 1) := by decide +kernel
theorem dX7_trueOf_113 : decode cX7_trueOf 113 = .ok (.aload_n 0, 1) := by decide +kernel
theorem dX7_trueOf_114 : decode cX7_trueOf 114 = .ok (.getfield 18, 3) := by decide +kernel
theorem dX7_trueOf_117 : decode cX7_trueOf 117 = .ok (.iload_n 2, 1) := by decide +kernel
theorem dX7_trueOf_118 : decode cX7_trueOf 118 = .ok (.iaload, 1) := by decide +kernel
theorem dX7_trueOf_119 : decode cX7_trueOf 119 = .ok (.invokestatic 121, 3) := by decide +kernel
theorem dX7_trueOf_122 : decode cX7_trueOf 122 = .ok (.invokevirtual 118, 3) := by decide +kernel
theorem dX7_trueOf_125 : decode cX7_trueOf 125 = .ok (.iinc 2 1, 3) := by decide +kernel
theorem dX7_trueOf_128 : decode cX7_trueOf 128 = .ok (.goto (-121), 3) := by decide +kernel
theorem dX7_trueOf_131 : decode cX7_trueOf 131 = .ok (.aload_n 0, 1) := by decide +kernel
theorem dX7_trueOf_132 : decode cX7_trueOf 132 = .ok (.invokevirtual 115, 3) := by decide +kernel
theorem dX7_trueOf_135 : decode cX7_trueOf 135 = .ok (.iconst 1, 1) := by decide +kernel
theorem dX7_trueOf_136 : decode cX7_trueOf 136 = .ok (.aload_n 1, 1) := by decide +kernel
theorem dX7_trueOf_137 : decode cX7_trueOf 137 = .ok (.getfield 125, 3) := by decide +kernel
theorem dX7_trueOf_140 : decode cX7_trueOf 140 = .ok (.getfield 131, 3) := by decide +kernel
theorem dX7_trueOf_143 : decode cX7_trueOf 143 = .ok (.ishl, 1) := by decide +kernel
theorem dX7_trueOf_144 : decode cX7_trueOf 144 = .ok (.iconst 1, 1) := by decide +kernel
theorem dX7_trueOf_145 : decode cX7_trueOf 145 = .ok (.isub, 1) := by decide +kernel
theorem dX7_trueOf_146 : decode cX7_trueOf 146 = .ok (.iand, 1) := by decide +kernel
theorem dX7_trueOf_147 : decode cX7_trueOf 147 = .ok (.ireturn, 1) := by decide +kernel
theorem dX7_push_0 : decode cX7_push 0 = .ok (.aload_n 0, 1) := by decide +kernel
theorem dX7_push_1 : decode cX7_push 1 = .ok (.getfield 112, 3) := by decide +kernel
theorem dX7_push_4 : decode cX7_push 4 = .ok (.ifCond .lt 32, 3) := by decide +kernel
theorem dX7_push_7 : decode cX7_push 7 = .ok (.aload_n 0, 1) := by decide +kernel
theorem dX7_push_8 : decode cX7_push 8 = .ok (.getfield 112, 3) := by decide +kernel
theorem dX7_push_11 : decode cX7_push 11 = .ok (.bipush 40, 2) := by decide +kernel
theorem dX7_push_13 : decode cX7_push 13 = .ok (.if_icmp .ge 23, 3) := by decide +kernel
theorem dX7_push_16 : decode cX7_push 16 = .ok (.aload_n 0, 1) := by decide +kernel
theorem dX7_push_17 : decode cX7_push 17 = .ok (.getfield 21, 3) := by decide +kernel
theorem dX7_push_20 : decode cX7_push 20 = .ok (.aload_n 0, 1) := by decide +kernel
theorem dX7_push_21 : decode cX7_push 21 = .ok (.getfield 112, 3) := by decide +kernel
theorem dX7_push_24 : decode cX7_push 24 = .ok (.iload_n 1, 1) := by decide +kernel
theorem dX7_push_25 : decode cX7_push 25 = .ok (.iastore, 1) := by decide +kernel
theorem dX7_push_26 : decode cX7_push 26 = .ok (.aload_n 0, 1) := by decide +kernel
theorem dX7_push_27 : decode cX7_push 27 = .ok (.dup, 1) := by decide +kernel
theorem dX7_push_28 : decode cX7_push 28 = .ok (.getfield 112, 3) := by decide +kernel
theorem dX7_push_31 : decode cX7_push 31 = .ok (.iconst 1, 1) := by decide +kernel
theorem dX7_push_32 : decode cX7_push 32 = .ok (.iadd, 1) := by decide +kernel
theorem dX7_push_33 : decode cX7_push 33 = .ok (.putfield 112, 3) := by decide +kernel
theorem dX7_push_36 : decode cX7_push 36 = .ok (.return_, 1) := by decide +kernel
theorem dX7_pop_0 : decode cX7_pop 0 = .ok (.aload_n 0, 1) := by decide +kernel
theorem dX7_pop_1 : decode cX7_pop 1 = .ok (.getfield 112, 3) := by decide +kernel
theorem dX7_pop_4 : decode cX7_pop 4 = .ok (.iconst 1, 1) := by decide +kernel
theorem dX7_pop_5 : decode cX7_pop 5 = .ok (.if_icmp .lt 12, 3) := by decide +kernel
theorem dX7_pop_8 : decode cX7_pop 8 = .ok (.aload_n 0, 1) := by decide +kernel
theorem dX7_pop_9 : decode cX7_pop 9 = .ok (.getfield 112, 3) := by decide +kernel
theorem dX7_pop_12 : decode cX7_pop 12 = .ok (.bipush 40, 2) := by decide +kernel
theorem dX7_pop_14 : decode cX7_pop 14 = .ok (.if_icmp .le 5, 3) := by decide +kernel
theorem dX7_pop_17 : decode cX7_pop 17 = .ok (.iconst 0, 1) := by decide +kernel
theorem dX7_pop_18 : decode cX7_pop 18 = .ok (.ireturn, 1) := by decide +kernel
theorem dX7_pop_19 : decode cX7_pop 19 = .ok (.aload_n 0, 1) := by decide +kernel
theorem dX7_pop_20 : decode cX7_pop 20 = .ok (.dup, 1) := by decide +kernel
theorem dX7_pop_21 : decode cX7_pop 21 = .ok (.getfield 112, 3) := by decide +kernel
theorem dX7_pop_24 : decode cX7_pop 24 = .ok (.iconst 1, 1) := by decide +kernel
theorem dX7_pop_25 : decode cX7_pop 25 = .ok (.isub, 1) := by decide +kernel
theorem dX7_pop_26 : decode cX7_pop 26 = .ok (.putfield 112, 3) := by decide +kernel
theorem dX7_pop_29 : decode cX7_pop 29 = .ok (.aload_n 0, 1) := by decide +kernel
theorem dX7_pop_30 : decode cX7_pop 30 = .ok (.getfield 21, 3) := by decide +kernel
theorem dX7_pop_33 : decode cX7_pop 33 = .ok (.aload_n 0, 1) := by decide +kernel
theorem dX7_pop_34 : decode cX7_pop 34 = .ok (.getfield 112, 3) := by decide +kernel
theorem dX7_pop_37 : decode cX7_pop 37 = .ok (.iaload, 1) := by decide +kernel
theorem dX7_pop_38 : decode cX7_pop 38 = .ok (.ireturn, 1) := by decide +kernel
theorem dX7_personsOf_0 : decode cX7_personsOf 0 = .ok (.iconst 0, 1) := by decide +kernel
theorem dX7_personsOf_1 : decode cX7_personsOf 1 = .ok (.istore 4, 2) := by decide +kernel
theorem dX7_personsOf_3 : decode cX7_personsOf 3 = .ok (.iconst 0, 1) := by decide +kernel
theorem dX7_personsOf_4 : decode cX7_personsOf 4 = .ok (.istore 5, 2) := by decide +kernel
theorem dX7_personsOf_6 : decode cX7_personsOf 6 = .ok (.iload 5, 2) := by decide +kernel
theorem dX7_personsOf_8 : decode cX7_personsOf 8 = .ok (.aload_n 0, 1) := by decide +kernel
theorem dX7_personsOf_9 : decode cX7_personsOf 9 = .ok (.getfield 125, 3) := by decide +kernel
theorem dX7_personsOf_12 : decode cX7_personsOf 12 = .ok (.getfield 131, 3) := by decide +kernel
theorem dX7_personsOf_15 : decode cX7_personsOf 15 = .ok (.if_icmp .ge 30, 3) := by decide +kernel
theorem dX7_personsOf_18 : decode cX7_personsOf 18 = .ok (.aload_n 0, 1) := by decide +kernel
theorem dX7_personsOf_19 : decode cX7_personsOf 19 = .ok (.iload 5, 2) := by decide +kernel
theorem dX7_personsOf_21 : decode cX7_personsOf 21 = .ok (.iload_n 1, 1) := by decide +kernel
theorem dX7_personsOf_22 : decode cX7_personsOf 22 = .ok (.iload_n 2, 1) := by decide +kernel
theorem dX7_personsOf_23 : decode cX7_personsOf 23 = .ok (.iload_n 3, 1) := by decide +kernel
theorem dX7_personsOf_24 : decode cX7_personsOf 24 = .ok (.invokestatic 136, 3) := by decide +kernel
theorem dX7_personsOf_27 : decode cX7_personsOf 27 = .ok (.ifCond .eq 12, 3) := by decide +kernel
theorem dX7_personsOf_30 : decode cX7_personsOf 30 = .ok (.iload 4, 2) := by decide +kernel
theorem dX7_personsOf_32 : decode cX7_personsOf 32 = .ok (.iconst 1, 1) := by decide +kernel
theorem dX7_personsOf_33 : decode cX7_personsOf 33 = .ok (.iload 5, 2) := by decide +kernel
theorem dX7_personsOf_35 : decode cX7_personsOf 35 = .ok (.ishl, 1) := by decide +kernel
theorem dX7_personsOf_36 : decode cX7_personsOf 36 = .ok (.ior, 1) := by decide +kernel
theorem dX7_personsOf_37 : decode cX7_personsOf 37 = .ok (.istore 4, 2) := by decide +kernel
theorem dX7_personsOf_39 : decode cX7_personsOf 39 = .ok (.iinc 5 1, 3) := by decide +kernel
theorem dX7_personsOf_42 : decode cX7_personsOf 42 = .ok (.goto (-36), 3) := by decide +kernel
theorem dX7_personsOf_45 : decode cX7_personsOf 45 = .ok (.iload 4, 2) := by decide +kernel
theorem dX7_personsOf_47 : decode cX7_personsOf 47 = .ok (.ireturn, 1) := by decide +kernel
theorem dX7_isTrueOf_0 : decode cX7_isTrueOf 0 = .ok (.iload_n 2, 1) := by decide +kernel
theorem dX7_isTrueOf_1 : decode cX7_isTrueOf 1 = .ok (.tableswitch 205 4 27 #[138, 205, 205, 205, 205, 205, 205, 205, 129, 205, 205, 205, 205, 205, 205, 205, 205, 111, 117, 123, 145, 163, 176, 191], 111) := by decide +kernel
theorem dX7_isTrueOf_112 : decode cX7_isTrueOf 112 = .ok (.aload_n 0, 1) := by decide +kernel
theorem dX7_isTrueOf_113 : decode cX7_isTrueOf 113 = .ok (.iload_n 1, 1) := by decide +kernel
theorem dX7_isTrueOf_114 : decode cX7_isTrueOf 114 = .ok (.invokevirtual 140, 3) := by decide +kernel
theorem dX7_isTrueOf_117 : decode cX7_isTrueOf 117 = .ok (.ireturn, 1) := by decide +kernel
theorem dX7_isTrueOf_118 : decode cX7_isTrueOf 118 = .ok (.aload_n 0, 1) := by decide +kernel
theorem dX7_isTrueOf_119 : decode cX7_isTrueOf 119 = .ok (.iload_n 1, 1) := by decide +kernel
theorem dX7_isTrueOf_120 : decode cX7_isTrueOf 120 = .ok (.invokevirtual 143, 3) := by decide +kernel
theorem dX7_isTrueOf_123 : decode cX7_isTrueOf 123 = .ok (.ireturn, 1) := by decide +kernel
theorem dX7_isTrueOf_124 : decode cX7_isTrueOf 124 = .ok (.aload_n 0, 1) := by decide +kernel
theorem dX7_isTrueOf_125 : decode cX7_isTrueOf 125 = .ok (.iload_n 1, 1) := by decide +kernel
theorem dX7_isTrueOf_126 : decode cX7_isTrueOf 126 = .ok (.invokevirtual 146, 3) := by decide +kernel
theorem dX7_isTrueOf_129 : decode cX7_isTrueOf 129 = .ok (.ireturn, 1) := by decide +kernel
theorem dX7_isTrueOf_130 : decode cX7_isTrueOf 130 = .ok (.aload_n 0, 1) := by decide +kernel
theorem dX7_isTrueOf_131 : decode cX7_isTrueOf 131 = .ok (.getfield 125, 3) := by decide +kernel
theorem dX7_isTrueOf_134 : decode cX7_isTrueOf 134 = .ok (.iload_n 1, 1) := by decide +kernel
theorem dX7_isTrueOf_135 : decode cX7_isTrueOf 135 = .ok (.invokevirtual 149, 3) := by decide +kernel
theorem dX7_isTrueOf_138 : decode cX7_isTrueOf 138 = .ok (.ireturn, 1) := by decide +kernel
theorem dX7_isTrueOf_139 : decode cX7_isTrueOf 139 = .ok (.aload_n 0, 1) := by decide +kernel
theorem dX7_isTrueOf_140 : decode cX7_isTrueOf 140 = .ok (.iload_n 1, 1) := by decide +kernel
theorem dX7_isTrueOf_141 : decode cX7_isTrueOf 141 = .ok (.iload_n 3, 1) := by decide +kernel
theorem dX7_isTrueOf_142 : decode cX7_isTrueOf 142 = .ok (.invokevirtual 152, 3) := by decide +kernel
theorem dX7_isTrueOf_145 : decode cX7_isTrueOf 145 = .ok (.ireturn, 1) := by decide +kernel
theorem dX7_isTrueOf_146 : decode cX7_isTrueOf 146 = .ok (.aload_n 0, 1) := by decide +kernel
theorem dX7_isTrueOf_147 : decode cX7_isTrueOf 147 = .ok (.getfield 125, 3) := by decide +kernel
theorem dX7_isTrueOf_150 : decode cX7_isTrueOf 150 = .ok (.iload_n 1, 1) := by decide +kernel
theorem dX7_isTrueOf_151 : decode cX7_isTrueOf 151 = .ok (.invokevirtual 156, 3) := by decide +kernel
theorem dX7_isTrueOf_154 : decode cX7_isTrueOf 154 = .ok (.iload_n 3, 1) := by decide +kernel
theorem dX7_isTrueOf_155 : decode cX7_isTrueOf 155 = .ok (.if_icmp .ne 7, 3) := by decide +kernel
theorem dX7_isTrueOf_158 : decode cX7_isTrueOf 158 = .ok (.iconst 1, 1) := by decide +kernel
theorem dX7_isTrueOf_159 : decode cX7_isTrueOf 159 = .ok (.goto 4, 3) := by decide +kernel
theorem dX7_isTrueOf_162 : decode cX7_isTrueOf 162 = .ok (.iconst 0, 1) := by decide +kernel
theorem dX7_isTrueOf_163 : decode cX7_isTrueOf 163 = .ok (.ireturn, 1) := by decide +kernel
theorem dX7_isTrueOf_164 : decode cX7_isTrueOf 164 = .ok (.aload_n 0, 1) := by decide +kernel
theorem dX7_isTrueOf_165 : decode cX7_isTrueOf 165 = .ok (.iload_n 1, 1) := by decide +kernel
theorem dX7_isTrueOf_166 : decode cX7_isTrueOf 166 = .ok (.iconst 1, 1) := by decide +kernel
theorem dX7_isTrueOf_167 : decode cX7_isTrueOf 167 = .ok (.invokevirtual 159, 3) := by decide +kernel
theorem dX7_isTrueOf_170 : decode cX7_isTrueOf 170 = .ok (.iload_n 3, 1) := by decide +kernel
theorem dX7_isTrueOf_171 : decode cX7_isTrueOf 171 = .ok (.iload 4, 2) := by decide +kernel
theorem dX7_isTrueOf_173 : decode cX7_isTrueOf 173 = .ok (.invokestatic 162, 3) := by decide +kernel
theorem dX7_isTrueOf_176 : decode cX7_isTrueOf 176 = .ok (.ireturn, 1) := by decide +kernel
theorem dX7_isTrueOf_177 : decode cX7_isTrueOf 177 = .ok (.aload_n 0, 1) := by decide +kernel
theorem dX7_isTrueOf_178 : decode cX7_isTrueOf 178 = .ok (.iload_n 1, 1) := by decide +kernel
theorem dX7_isTrueOf_179 : decode cX7_isTrueOf 179 = .ok (.invokevirtual 166, 3) := by decide +kernel
theorem dX7_isTrueOf_182 : decode cX7_isTrueOf 182 = .ok (.invokestatic 169, 3) := by decide +kernel
theorem dX7_isTrueOf_185 : decode cX7_isTrueOf 185 = .ok (.iload_n 3, 1) := by decide +kernel
theorem dX7_isTrueOf_186 : decode cX7_isTrueOf 186 = .ok (.iload 4, 2) := by decide +kernel
theorem dX7_isTrueOf_188 : decode cX7_isTrueOf 188 = .ok (.invokestatic 162, 3) := by decide +kernel
theorem dX7_isTrueOf_191 : decode cX7_isTrueOf 191 = .ok (.ireturn, 1) := by decide +kernel
theorem dX7_isTrueOf_192 : decode cX7_isTrueOf 192 = .ok (.aload_n 0, 1) := by decide +kernel
theorem dX7_isTrueOf_193 : decode cX7_isTrueOf 193 = .ok (.iload_n 1, 1) := by decide +kernel
theorem dX7_isTrueOf_194 : decode cX7_isTrueOf 194 = .ok (.bipush 7, 2) := by decide +kernel
theorem dX7_isTrueOf_196 : decode cX7_isTrueOf 196 = .ok (.invokevirtual 159, 3) := by decide +kernel
theorem dX7_isTrueOf_199 : decode cX7_isTrueOf 199 = .ok (.iload_n 3, 1) := by decide +kernel
theorem dX7_isTrueOf_200 : decode cX7_isTrueOf 200 = .ok (.iload 4, 2) := by decide +kernel
theorem dX7_isTrueOf_202 : decode cX7_isTrueOf 202 = .ok (.invokestatic 162, 3) := by decide +kernel
theorem dX7_isTrueOf_205 : decode cX7_isTrueOf 205 = .ok (.ireturn, 1) := by decide +kernel
theorem dX7_isTrueOf_206 : decode cX7_isTrueOf 206 = .ok (.iload_n 1, 1) := by decide +kernel
theorem dX7_isTrueOf_207 : decode cX7_isTrueOf 207 = .ok (.iload_n 3, 1) := by decide +kernel
theorem dX7_isTrueOf_208 : decode cX7_isTrueOf 208 = .ok (.iload 4, 2) := by decide +kernel
theorem dX7_isTrueOf_210 : decode cX7_isTrueOf 210 = .ok (.invokestatic 162, 3) := by decide +kernel
theorem dX7_isTrueOf_213 : decode cX7_isTrueOf 213 = .ok (.ireturn, 1) := by decide +kernel
theorem dX7_compares_0 : decode cX7_compares 0 = .ok (.iload_n 1, 1) := by decide +kernel
theorem dX7_compares_1 : decode cX7_compares 1 = .ok (.bipush 60, 2) := by decide +kernel
theorem dX7_compares_3 : decode cX7_compares 3 = .ok (.if_icmp .ne 14, 3) := by decide +kernel
theorem dX7_compares_6 : decode cX7_compares 6 = .ok (.iload_n 0, 1) := by decide +kernel
theorem dX7_compares_7 : decode cX7_compares 7 = .ok (.iload_n 2, 1) := by decide +kernel
theorem dX7_compares_8 : decode cX7_compares 8 = .ok (.if_icmp .ge 7, 3) := by decide +kernel
theorem dX7_compares_11 : decode cX7_compares 11 = .ok (.iconst 1, 1) := by decide +kernel
theorem dX7_compares_12 : decode cX7_compares 12 = .ok (.goto 4, 3) := by decide +kernel
theorem dX7_compares_15 : decode cX7_compares 15 = .ok (.iconst 0, 1) := by decide +kernel
theorem dX7_compares_16 : decode cX7_compares 16 = .ok (.ireturn, 1) := by decide +kernel
theorem dX7_compares_17 : decode cX7_compares 17 = .ok (.iload_n 1, 1) := by decide +kernel
theorem dX7_compares_18 : decode cX7_compares 18 = .ok (.bipush 61, 2) := by decide +kernel
theorem dX7_compares_20 : decode cX7_compares 20 = .ok (.if_icmp .ne 16, 3) := by decide +kernel
theorem dX7_compares_23 : decode cX7_compares 23 = .ok (.iload_n 0, 1) := by decide +kernel
theorem dX7_compares_24 : decode cX7_compares 24 = .ok (.iload_n 2, 1) := by decide +kernel
theorem dX7_compares_25 : decode cX7_compares 25 = .ok (.if_icmp .ne 7, 3) := by decide +kernel
theorem dX7_compares_28 : decode cX7_compares 28 = .ok (.iconst 1, 1) := by decide +kernel
theorem dX7_compares_29 : decode cX7_compares 29 = .ok (.goto 17, 3) := by decide +kernel
theorem dX7_compares_32 : decode cX7_compares 32 = .ok (.iconst 0, 1) := by decide +kernel
theorem dX7_compares_33 : decode cX7_compares 33 = .ok (.goto 13, 3) := by decide +kernel
theorem dX7_compares_36 : decode cX7_compares 36 = .ok (.iload_n 0, 1) := by decide +kernel
theorem dX7_compares_37 : decode cX7_compares 37 = .ok (.iload_n 2, 1) := by decide +kernel
theorem dX7_compares_38 : decode cX7_compares 38 = .ok (.if_icmp .le 7, 3) := by decide +kernel
theorem dX7_compares_41 : decode cX7_compares 41 = .ok (.iconst 1, 1) := by decide +kernel
theorem dX7_compares_42 : decode cX7_compares 42 = .ok (.goto 4, 3) := by decide +kernel
theorem dX7_compares_45 : decode cX7_compares 45 = .ok (.iconst 0, 1) := by decide +kernel
theorem dX7_compares_46 : decode cX7_compares 46 = .ok (.ireturn, 1) := by decide +kernel
theorem dX8_init_0 : decode cX8_init 0 = .ok (.aload_n 0, 1) := by decide +kernel
theorem dX8_init_1 : decode cX8_init 1 = .ok (.invokespecial 3, 3) := by decide +kernel
theorem dX8_init_4 : decode cX8_init 4 = .ok (.aload_n 0, 1) := by decide +kernel
theorem dX8_init_5 : decode cX8_init 5 = .ok (.bipush 12, 2) := by decide +kernel
theorem dX8_init_7 : decode cX8_init 7 = .ok (.newarray .int, 2) := by decide +kernel
theorem dX8_init_9 : decode cX8_init 9 = .ok (.putfield 9, 3) := by decide +kernel
theorem dX8_init_12 : decode cX8_init 12 = .ok (.aload_n 0, 1) := by decide +kernel
theorem dX8_init_13 : decode cX8_init 13 = .ok (.bipush 12, 2) := by decide +kernel
theorem dX8_init_15 : decode cX8_init 15 = .ok (.newarray .int, 2) := by decide +kernel
theorem dX8_init_17 : decode cX8_init 17 = .ok (.putfield 15, 3) := by decide +kernel
theorem dX8_init_20 : decode cX8_init 20 = .ok (.aload_n 0, 1) := by decide +kernel
theorem dX8_init_21 : decode cX8_init 21 = .ok (.bipush 8, 2) := by decide +kernel
theorem dX8_init_23 : decode cX8_init 23 = .ok (.newarray .int, 2) := by decide +kernel
theorem dX8_init_25 : decode cX8_init 25 = .ok (.putfield 18, 3) := by decide +kernel
theorem dX8_init_28 : decode cX8_init 28 = .ok (.aload_n 0, 1) := by decide +kernel
theorem dX8_init_29 : decode cX8_init 29 = .ok (.bipush 8, 2) := by decide +kernel
theorem dX8_init_31 : decode cX8_init 31 = .ok (.newarray .int, 2) := by decide +kernel
theorem dX8_init_33 : decode cX8_init 33 = .ok (.putfield 21, 3) := by decide +kernel
theorem dX8_init_36 : decode cX8_init 36 = .ok (.aload_n 0, 1) := by decide +kernel
theorem dX8_init_37 : decode cX8_init 37 = .ok (.bipush 8, 2) := by decide +kernel
theorem dX8_init_39 : decode cX8_init 39 = .ok (.newarray .int, 2) := by decide +kernel
theorem dX8_init_41 : decode cX8_init 41 = .ok (.putfield 24, 3) := by decide +kernel
theorem dX8_init_44 : decode cX8_init 44 = .ok (.aload_n 0, 1) := by decide +kernel
theorem dX8_init_45 : decode cX8_init 45 = .ok (.bipush 8, 2) := by decide +kernel
theorem dX8_init_47 : decode cX8_init 47 = .ok (.newarray .int, 2) := by decide +kernel
theorem dX8_init_49 : decode cX8_init 49 = .ok (.putfield 27, 3) := by decide +kernel
theorem dX8_init_52 : decode cX8_init 52 = .ok (.aload_n 0, 1) := by decide +kernel
theorem dX8_init_53 : decode cX8_init 53 = .ok (.bipush 8, 2) := by decide +kernel
theorem dX8_init_55 : decode cX8_init 55 = .ok (.newarray .int, 2) := by decide +kernel
theorem dX8_init_57 : decode cX8_init 57 = .ok (.putfield 30, 3) := by decide +kernel
theorem dX8_init_60 : decode cX8_init 60 = .ok (.aload_n 0, 1) := by decide +kernel
theorem dX8_init_61 : decode cX8_init 61 = .ok (.bipush 8, 2) := by decide +kernel
theorem dX8_init_63 : decode cX8_init 63 = .ok (.newarray .int, 2) := by decide +kernel
theorem dX8_init_65 : decode cX8_init 65 = .ok (.putfield 33, 3) := by decide +kernel
theorem dX8_init_68 : decode cX8_init 68 = .ok (.aload_n 0, 1) := by decide +kernel
theorem dX8_init_69 : decode cX8_init 69 = .ok (.bipush 8, 2) := by decide +kernel
theorem dX8_init_71 : decode cX8_init 71 = .ok (.newarray .int, 2) := by decide +kernel
theorem dX8_init_73 : decode cX8_init 73 = .ok (.putfield 36, 3) := by decide +kernel
theorem dX8_init_76 : decode cX8_init 76 = .ok (.aload_n 0, 1) := by decide +kernel
theorem dX8_init_77 : decode cX8_init 77 = .ok (.bipush 8, 2) := by decide +kernel
theorem dX8_init_79 : decode cX8_init 79 = .ok (.newarray .int, 2) := by decide +kernel
theorem dX8_init_81 : decode cX8_init 81 = .ok (.putfield 39, 3) := by decide +kernel
theorem dX8_init_84 : decode cX8_init 84 = .ok (.aload_n 0, 1) := by decide +kernel
theorem dX8_init_85 : decode cX8_init 85 = .ok (.aload_n 1, 1) := by decide +kernel
theorem dX8_init_86 : decode cX8_init 86 = .ok (.putfield 42, 3) := by decide +kernel
theorem dX8_init_89 : decode cX8_init 89 = .ok (.return_, 1) := by decide +kernel
theorem dX8_clear_0 : decode cX8_clear 0 = .ok (.aload_n 0, 1) := by decide +kernel
theorem dX8_clear_1 : decode cX8_clear 1 = .ok (.iconst 0, 1) := by decide +kernel
theorem dX8_clear_2 : decode cX8_clear 2 = .ok (.putfield 46, 3) := by decide +kernel
theorem dX8_clear_5 : decode cX8_clear 5 = .ok (.aload_n 0, 1) := by decide +kernel
theorem dX8_clear_6 : decode cX8_clear 6 = .ok (.iconst 0, 1) := by decide +kernel
theorem dX8_clear_7 : decode cX8_clear 7 = .ok (.putfield 50, 3) := by decide +kernel
theorem dX8_clear_10 : decode cX8_clear 10 = .ok (.aload_n 0, 1) := by decide +kernel
theorem dX8_clear_11 : decode cX8_clear 11 = .ok (.iconst 0, 1) := by decide +kernel
theorem dX8_clear_12 : decode cX8_clear 12 = .ok (.putfield 53, 3) := by decide +kernel
theorem dX8_clear_15 : decode cX8_clear 15 = .ok (.return_, 1) := by decide +kernel
theorem dX8_copyFrom_0 : decode cX8_copyFrom 0 = .ok (.aload_n 0, 1) := by decide +kernel
theorem dX8_copyFrom_1 : decode cX8_copyFrom 1 = .ok (.aload_n 1, 1) := by decide +kernel
theorem dX8_copyFrom_2 : decode cX8_copyFrom 2 = .ok (.getfield 46, 3) := by decide +kernel
theorem dX8_copyFrom_5 : decode cX8_copyFrom 5 = .ok (.putfield 46, 3) := by decide +kernel
theorem dX8_copyFrom_8 : decode cX8_copyFrom 8 = .ok (.aload_n 0, 1) := by decide +kernel
theorem dX8_copyFrom_9 : decode cX8_copyFrom 9 = .ok (.aload_n 1, 1) := by decide +kernel
theorem dX8_copyFrom_10 : decode cX8_copyFrom 10 = .ok (.getfield 50, 3) := by decide +kernel
theorem dX8_copyFrom_13 : decode cX8_copyFrom 13 = .ok (.putfield 50, 3) := by decide +kernel
theorem dX8_copyFrom_16 : decode cX8_copyFrom 16 = .ok (.aload_n 0, 1) := by decide +kernel
theorem dX8_copyFrom_17 : decode cX8_copyFrom 17 = .ok (.aload_n 1, 1) := by decide +kernel
theorem dX8_copyFrom_18 : decode cX8_copyFrom 18 = .ok (.getfield 53, 3) := by decide +kernel
theorem dX8_copyFrom_21 : decode cX8_copyFrom 21 = .ok (.putfield 53, 3) := by decide +kernel
theorem dX8_copyFrom_24 : decode cX8_copyFrom 24 = .ok (.aload_n 1, 1) := by decide +kernel
theorem dX8_copyFrom_25 : decode cX8_copyFrom 25 = .ok (.getfield 9, 3) := by decide +kernel
theorem dX8_copyFrom_28 : decode cX8_copyFrom 28 = .ok (.iconst 0, 1) := by decide +kernel
theorem dX8_copyFrom_29 : decode cX8_copyFrom 29 = .ok (.aload_n 0, 1) := by decide +kernel
theorem dX8_copyFrom_30 : decode cX8_copyFrom 30 = .ok (.getfield 9, 3) := by decide +kernel
theorem dX8_copyFrom_33 : decode cX8_copyFrom 33 = .ok (.iconst 0, 1) := by decide +kernel
theorem dX8_copyFrom_34 : decode cX8_copyFrom 34 = .ok (.bipush 12, 2) := by decide +kernel
theorem dX8_copyFrom_36 : decode cX8_copyFrom 36 = .ok (.invokestatic 56, 3) := by decide +kernel
theorem dX8_copyFrom_39 : decode cX8_copyFrom 39 = .ok (.aload_n 1, 1) := by decide +kernel
theorem dX8_copyFrom_40 : decode cX8_copyFrom 40 = .ok (.getfield 15, 3) := by decide +kernel
theorem dX8_copyFrom_43 : decode cX8_copyFrom 43 = .ok (.iconst 0, 1) := by decide +kernel
theorem dX8_copyFrom_44 : decode cX8_copyFrom 44 = .ok (.aload_n 0, 1) := by decide +kernel
theorem dX8_copyFrom_45 : decode cX8_copyFrom 45 = .ok (.getfield 15, 3) := by decide +kernel
theorem dX8_copyFrom_48 : decode cX8_copyFrom 48 = .ok (.iconst 0, 1) := by decide +kernel
theorem dX8_copyFrom_49 : decode cX8_copyFrom 49 = .ok (.bipush 12, 2) := by decide +kernel
theorem dX8_copyFrom_51 : decode cX8_copyFrom 51 = .ok (.invokestatic 56, 3) := by decide +kernel
theorem dX8_copyFrom_54 : decode cX8_copyFrom 54 = .ok (.aload_n 1, 1) := by decide +kernel
theorem dX8_copyFrom_55 : decode cX8_copyFrom 55 = .ok (.getfield 18, 3) := by decide +kernel
theorem dX8_copyFrom_58 : decode cX8_copyFrom 58 = .ok (.iconst 0, 1) := by decide +kernel
theorem dX8_copyFrom_59 : decode cX8_copyFrom 59 = .ok (.aload_n 0, 1) := by decide +kernel
theorem dX8_copyFrom_60 : decode cX8_copyFrom 60 = .ok (.getfield 18, 3) := by decide +kernel
theorem dX8_copyFrom_63 : decode cX8_copyFrom 63 = .ok (.iconst 0, 1) := by decide +kernel
theorem dX8_copyFrom_64 : decode cX8_copyFrom 64 = .ok (.bipush 8, 2) := by decide +kernel
theorem dX8_copyFrom_66 : decode cX8_copyFrom 66 = .ok (.invokestatic 56, 3) := by decide +kernel
theorem dX8_copyFrom_69 : decode cX8_copyFrom 69 = .ok (.aload_n 1, 1) := by decide +kernel
theorem dX8_copyFrom_70 : decode cX8_copyFrom 70 = .ok (.getfield 21, 3) := by decide +kernel
theorem dX8_copyFrom_73 : decode cX8_copyFrom 73 = .ok (.iconst 0, 1) := by decide +kernel
theorem dX8_copyFrom_74 : decode cX8_copyFrom 74 = .ok (.aload_n 0, 1) := by decide +kernel
theorem dX8_copyFrom_75 : decode cX8_copyFrom 75 = .ok (.getfield 21, 3) := by decide +kernel
theorem dX8_copyFrom_78 : decode cX8_copyFrom 78 = .ok (.iconst 0, 1) := by decide +kernel
theorem dX8_copyFrom_79 : decode cX8_copyFrom 79 = .ok (.bipush 8, 2) := by decide +kernel
theorem dX8_copyFrom_81 : decode cX8_copyFrom 81 = .ok (.invokestatic 56, 3) := by decide +kernel
theorem dX8_copyFrom_84 : decode cX8_copyFrom 84 = .ok (.aload_n 1, 1) := by decide +kernel
theorem dX8_copyFrom_85 : decode cX8_copyFrom 85 = .ok (.getfield 24, 3) := by decide +kernel
theorem dX8_copyFrom_88 : decode cX8_copyFrom 88 = .ok (.iconst 0, 1) := by decide +kernel
theorem dX8_copyFrom_89 : decode cX8_copyFrom 89 = .ok (.aload_n 0, 1) := by decide +kernel
theorem dX8_copyFrom_90 : decode cX8_copyFrom 90 = .ok (.getfield 24, 3) := by decide +kernel
theorem dX8_copyFrom_93 : decode cX8_copyFrom 93 = .ok (.iconst 0, 1) := by decide +kernel
theorem dX8_copyFrom_94 : decode cX8_copyFrom 94 = .ok (.bipush 8, 2) := by decide +kernel
theorem dX8_copyFrom_96 : decode cX8_copyFrom 96 = .ok (.invokestatic 56, 3) := by decide +kernel
theorem dX8_copyFrom_99 : decode cX8_copyFrom 99 = .ok (.aload_n 1, 1) := by decide +kernel
theorem dX8_copyFrom_100 : decode cX8_copyFrom 100 = .ok (.getfield 27, 3) := by decide +kernel
theorem dX8_copyFrom_103 : decode cX8_copyFrom 103 = .ok (.iconst 0, 1) := by decide +kernel
theorem dX8_copyFrom_104 : decode cX8_copyFrom 104 = .ok (.aload_n 0, 1) := by decide +kernel
theorem dX8_copyFrom_105 : decode cX8_copyFrom 105 = .ok (.getfield 27, 3) := by decide +kernel
theorem dX8_copyFrom_108 : decode cX8_copyFrom 108 = .ok (.iconst 0, 1) := by decide +kernel
theorem dX8_copyFrom_109 : decode cX8_copyFrom 109 = .ok (.bipush 8, 2) := by decide +kernel
theorem dX8_copyFrom_111 : decode cX8_copyFrom 111 = .ok (.invokestatic 56, 3) := by decide +kernel
theorem dX8_copyFrom_114 : decode cX8_copyFrom 114 = .ok (.aload_n 1, 1) := by decide +kernel
theorem dX8_copyFrom_115 : decode cX8_copyFrom 115 = .ok (.getfield 30, 3) := by decide +kernel
theorem dX8_copyFrom_118 : decode cX8_copyFrom 118 = .ok (.iconst 0, 1) := by decide +kernel
theorem dX8_copyFrom_119 : decode cX8_copyFrom 119 = .ok (.aload_n 0, 1) := by decide +kernel
theorem dX8_copyFrom_120 : decode cX8_copyFrom 120 = .ok (.getfield 30, 3) := by decide +kernel
theorem dX8_copyFrom_123 : decode cX8_copyFrom 123 = .ok (.iconst 0, 1) := by decide +kernel
theorem dX8_copyFrom_124 : decode cX8_copyFrom 124 = .ok (.bipush 8, 2) := by decide +kernel
theorem dX8_copyFrom_126 : decode cX8_copyFrom 126 = .ok (.invokestatic 56, 3) := by decide +kernel
theorem dX8_copyFrom_129 : decode cX8_copyFrom 129 = .ok (.aload_n 1, 1) := by decide +kernel
theorem dX8_copyFrom_130 : decode cX8_copyFrom 130 = .ok (.getfield 33, 3) := by decide +kernel
theorem dX8_copyFrom_133 : decode cX8_copyFrom 133 = .ok (.iconst 0, 1) := by decide +kernel
theorem dX8_copyFrom_134 : decode cX8_copyFrom 134 = .ok (.aload_n 0, 1) := by decide +kernel
theorem dX8_copyFrom_135 : decode cX8_copyFrom 135 = .ok (.getfield 33, 3) := by decide +kernel
theorem dX8_copyFrom_138 : decode cX8_copyFrom 138 = .ok (.iconst 0, 1) := by decide +kernel
theorem dX8_copyFrom_139 : decode cX8_copyFrom 139 = .ok (.bipush 8, 2) := by decide +kernel
theorem dX8_copyFrom_141 : decode cX8_copyFrom 141 = .ok (.invokestatic 56, 3) := by decide +kernel
theorem dX8_copyFrom_144 : decode cX8_copyFrom 144 = .ok (.aload_n 1, 1) := by decide +kernel
theorem dX8_copyFrom_145 : decode cX8_copyFrom 145 = .ok (.getfield 36, 3) := by decide +kernel
theorem dX8_copyFrom_148 : decode cX8_copyFrom 148 = .ok (.iconst 0, 1) := by decide +kernel
theorem dX8_copyFrom_149 : decode cX8_copyFrom 149 = .ok (.aload_n 0, 1) := by decide +kernel
theorem dX8_copyFrom_150 : decode cX8_copyFrom 150 = .ok (.getfield 36, 3) := by decide +kernel
theorem dX8_copyFrom_153 : decode cX8_copyFrom 153 = .ok (.iconst 0, 1) := by decide +kernel
theorem dX8_copyFrom_154 : decode cX8_copyFrom 154 = .ok (.bipush 8, 2) := by decide +kernel
theorem dX8_copyFrom_156 : decode cX8_copyFrom 156 = .ok (.invokestatic 56, 3) := by decide +kernel
theorem dX8_copyFrom_159 : decode cX8_copyFrom 159 = .ok (.aload_n 1, 1) := by decide +kernel
theorem dX8_copyFrom_160 : decode cX8_copyFrom 160 = .ok (.getfield 39, 3) := by decide +kernel
theorem dX8_copyFrom_163 : decode cX8_copyFrom 163 = .ok (.iconst 0, 1) := by decide +kernel
theorem dX8_copyFrom_164 : decode cX8_copyFrom 164 = .ok (.aload_n 0, 1) := by decide +kernel
theorem dX8_copyFrom_165 : decode cX8_copyFrom 165 = .ok (.getfield 39, 3) := by decide +kernel
theorem dX8_copyFrom_168 : decode cX8_copyFrom 168 = .ok (.iconst 0, 1) := by decide +kernel
theorem dX8_copyFrom_169 : decode cX8_copyFrom 169 = .ok (.bipush 8, 2) := by decide +kernel
theorem dX8_copyFrom_171 : decode cX8_copyFrom 171 = .ok (.invokestatic 56, 3) := by decide +kernel
theorem dX8_copyFrom_174 : decode cX8_copyFrom 174 = .ok (.return_, 1) := by decide +kernel
theorem dX8_addPerson_0 : decode cX8_addPerson 0 = .ok (.aload_n 0, 1) := by decide +kernel
theorem dX8_addPerson_1 : decode cX8_addPerson 1 = .ok (.getfield 42, 3) := by decide +kernel
theorem dX8_addPerson_4 : decode cX8_addPerson 4 = .ok (.iload_n 1, 1) := by decide +kernel
theorem dX8_addPerson_5 : decode cX8_addPerson 5 = .ok (.invokevirtual 62, 3) := by decide +kernel
theorem dX8_addPerson_8 : decode cX8_addPerson 8 = .ok (.ifCond .ne 4, 3) := by decide +kernel
theorem dX8_addPerson_11 : decode cX8_addPerson 11 = .ok (.return_, 1) := by decide +kernel
theorem dX8_addPerson_12 : decode cX8_addPerson 12 = .ok (.aload_n 0, 1) := by decide +kernel
theorem dX8_addPerson_13 : decode cX8_addPerson 13 = .ok (.getfield 18, 3) := by decide +kernel
theorem dX8_addPerson_16 : decode cX8_addPerson 16 = .ok (.iload_n 1, 1) := by decide +kernel
theorem dX8_addPerson_17 : decode cX8_addPerson 17 = .ok (.iconst 0, 1) := by decide +kernel
theorem dX8_addPerson_18 : decode cX8_addPerson 18 = .ok (.iastore, 1) := by decide +kernel
theorem dX8_addPerson_19 : decode cX8_addPerson 19 = .ok (.aload_n 0, 1) := by decide +kernel
theorem dX8_addPerson_20 : decode cX8_addPerson 20 = .ok (.getfield 21, 3) := by decide +kernel
theorem dX8_addPerson_23 : decode cX8_addPerson 23 = .ok (.iload_n 1, 1) := by decide +kernel
theorem dX8_addPerson_24 : decode cX8_addPerson 24 = .ok (.iload_n 2, 1) := by decide +kernel
theorem dX8_addPerson_25 : decode cX8_addPerson 25 = .ok (.iastore, 1) := by decide +kernel
theorem dX8_addPerson_26 : decode cX8_addPerson 26 = .ok (.aload_n 0, 1) := by decide +kernel
theorem dX8_addPerson_27 : decode cX8_addPerson 27 = .ok (.getfield 24, 3) := by decide +kernel
theorem dX8_addPerson_30 : decode cX8_addPerson 30 = .ok (.iload_n 1, 1) := by decide +kernel
theorem dX8_addPerson_31 : decode cX8_addPerson 31 = .ok (.iload_n 3, 1) := by decide +kernel
theorem dX8_addPerson_32 : decode cX8_addPerson 32 = .ok (.iastore, 1) := by decide +kernel
theorem dX8_addPerson_33 : decode cX8_addPerson 33 = .ok (.aload_n 0, 1) := by decide +kernel
theorem dX8_addPerson_34 : decode cX8_addPerson 34 = .ok (.getfield 27, 3) := by decide +kernel
theorem dX8_addPerson_37 : decode cX8_addPerson 37 = .ok (.iload_n 1, 1) := by decide +kernel
theorem dX8_addPerson_38 : decode cX8_addPerson 38 = .ok (.iconst (-1), 1) := by decide +kernel
theorem dX8_addPerson_39 : decode cX8_addPerson 39 = .ok (.iastore, 1) := by decide +kernel
theorem dX8_addPerson_40 : decode cX8_addPerson 40 = .ok (.aload_n 0, 1) := by decide +kernel
theorem dX8_addPerson_41 : decode cX8_addPerson 41 = .ok (.getfield 30, 3) := by decide +kernel
theorem dX8_addPerson_44 : decode cX8_addPerson 44 = .ok (.iload_n 1, 1) := by decide +kernel
theorem dX8_addPerson_45 : decode cX8_addPerson 45 = .ok (.iconst 0, 1) := by decide +kernel
theorem dX8_addPerson_46 : decode cX8_addPerson 46 = .ok (.iastore, 1) := by decide +kernel
theorem dX8_addPerson_47 : decode cX8_addPerson 47 = .ok (.aload_n 0, 1) := by decide +kernel
theorem dX8_addPerson_48 : decode cX8_addPerson 48 = .ok (.getfield 33, 3) := by decide +kernel
theorem dX8_addPerson_51 : decode cX8_addPerson 51 = .ok (.iload_n 1, 1) := by decide +kernel
theorem dX8_addPerson_52 : decode cX8_addPerson 52 = .ok (.iconst 0, 1) := by decide +kernel
theorem dX8_addPerson_53 : decode cX8_addPerson 53 = .ok (.iastore, 1) := by decide +kernel
theorem dX8_addPerson_54 : decode cX8_addPerson 54 = .ok (.aload_n 0, 1) := by decide +kernel
theorem dX8_addPerson_55 : decode cX8_addPerson 55 = .ok (.getfield 36, 3) := by decide +kernel
theorem dX8_addPerson_58 : decode cX8_addPerson 58 = .ok (.iload_n 1, 1) := by decide +kernel
theorem dX8_addPerson_59 : decode cX8_addPerson 59 = .ok (.iconst 0, 1) := by decide +kernel
theorem dX8_addPerson_60 : decode cX8_addPerson 60 = .ok (.iastore, 1) := by decide +kernel
theorem dX8_addPerson_61 : decode cX8_addPerson 61 = .ok (.aload_n 0, 1) := by decide +kernel
theorem dX8_addPerson_62 : decode cX8_addPerson 62 = .ok (.getfield 39, 3) := by decide +kernel
theorem dX8_addPerson_65 : decode cX8_addPerson 65 = .ok (.iload_n 1, 1) := by decide +kernel
theorem dX8_addPerson_66 : decode cX8_addPerson 66 = .ok (.iconst 0, 1) := by decide +kernel
theorem dX8_addPerson_67 : decode cX8_addPerson 67 = .ok (.iastore, 1) := by decide +kernel
theorem dX8_addPerson_68 : decode cX8_addPerson 68 = .ok (.aload_n 0, 1) := by decide +kernel
theorem dX8_addPerson_69 : decode cX8_addPerson 69 = .ok (.iload_n 1, 1) := by decide +kernel
theorem dX8_addPerson_70 : decode cX8_addPerson 70 = .ok (.aload_n 0, 1) := by decide +kernel
theorem dX8_addPerson_71 : decode cX8_addPerson 71 = .ok (.getfield 42, 3) := by decide +kernel
theorem dX8_addPerson_74 : decode cX8_addPerson 74 = .ok (.aload_n 0, 1) := by decide +kernel
theorem dX8_addPerson_75 : decode cX8_addPerson 75 = .ok (.getfield 42, 3) := by decide +kernel
theorem dX8_addPerson_78 : decode cX8_addPerson 78 = .ok (.iload_n 1, 1) := by decide +kernel
theorem dX8_addPerson_79 : decode cX8_addPerson 79 = .ok (.invokevirtual 68, 3) := by decide +kernel
theorem dX8_addPerson_82 : decode cX8_addPerson 82 = .ok (.invokevirtual 72, 3) := by decide +kernel
theorem dX8_addPerson_85 : decode cX8_addPerson 85 = .ok (.iconst 1, 1) := by decide +kernel
theorem dX8_addPerson_86 : decode cX8_addPerson 86 = .ok (.iload_n 1, 1) := by decide +kernel
theorem dX8_addPerson_87 : decode cX8_addPerson 87 = .ok (.ishl, 1) := by decide +kernel
theorem dX8_addPerson_88 : decode cX8_addPerson 88 = .ok (.iconst (-1), 1) := by decide +kernel
theorem dX8_addPerson_89 : decode cX8_addPerson 89 = .ok (.ixor, 1) := by decide +kernel
theorem dX8_addPerson_90 : decode cX8_addPerson 90 = .ok (.iand, 1) := by decide +kernel
theorem dX8_addPerson_91 : decode cX8_addPerson 91 = .ok (.invokevirtual 75, 3) := by decide +kernel
theorem dX8_addPerson_94 : decode cX8_addPerson 94 = .ok (.return_, 1) := by decide +kernel
theorem dX8_detail_0 : decode cX8_detail 0 = .ok (.aload_n 0, 1) := by decide +kernel
theorem dX8_detail_1 : decode cX8_detail 1 = .ok (.getfield 42, 3) := by decide +kernel
theorem dX8_detail_4 : decode cX8_detail 4 = .ok (.iload_n 1, 1) := by decide +kernel
theorem dX8_detail_5 : decode cX8_detail 5 = .ok (.invokevirtual 62, 3) := by decide +kernel
theorem dX8_detail_8 : decode cX8_detail 8 = .ok (.ifCond .ne 5, 3) := by decide +kernel
theorem dX8_detail_11 : decode cX8_detail 11 = .ok (.iconst (-1), 1) := by decide +kernel
theorem dX8_detail_12 : decode cX8_detail 12 = .ok (.ireturn, 1) := by decide +kernel
theorem dX8_detail_13 : decode cX8_detail 13 = .ok (.iload_n 2, 1) := by decide +kernel
theorem dX8_detail_14 : decode cX8_detail 14 = .ok (.tableswitch 146 0 10 #[58, 65, 72, 79, 86, 93, 100, 106, 113, 120, 129], 58) := by decide +kernel
theorem dX8_detail_72 : decode cX8_detail 72 = .ok (.aload_n 0, 1) := by decide +kernel
theorem dX8_detail_73 : decode cX8_detail 73 = .ok (.getfield 18, 3) := by decide +kernel
theorem dX8_detail_76 : decode cX8_detail 76 = .ok (.iload_n 1, 1) := by decide +kernel
theorem dX8_detail_77 : decode cX8_detail 77 = .ok (.iaload, 1) := by decide +kernel
theorem dX8_detail_78 : decode cX8_detail 78 = .ok (.ireturn, 1) := by decide +kernel
theorem dX8_detail_79 : decode cX8_detail 79 = .ok (.aload_n 0, 1) := by decide +kernel
theorem dX8_detail_80 : decode cX8_detail 80 = .ok (.getfield 21, 3) := by decide +kernel
theorem dX8_detail_83 : decode cX8_detail 83 = .ok (.iload_n 1, 1) := by decide +kernel
theorem dX8_detail_84 : decode cX8_detail 84 = .ok (.iaload, 1) := by decide +kernel
theorem dX8_detail_85 : decode cX8_detail 85 = .ok (.ireturn, 1) := by decide +kernel
theorem dX8_detail_86 : decode cX8_detail 86 = .ok (.aload_n 0, 1) := by decide +kernel
theorem dX8_detail_87 : decode cX8_detail 87 = .ok (.getfield 24, 3) := by decide +kernel
theorem dX8_detail_90 : decode cX8_detail 90 = .ok (.iload_n 1, 1) := by decide +kernel
theorem dX8_detail_91 : decode cX8_detail 91 = .ok (.iaload, 1) := by decide +kernel
theorem dX8_detail_92 : decode cX8_detail 92 = .ok (.ireturn, 1) := by decide +kernel
theorem dX8_detail_93 : decode cX8_detail 93 = .ok (.aload_n 0, 1) := by decide +kernel
theorem dX8_detail_94 : decode cX8_detail 94 = .ok (.getfield 27, 3) := by decide +kernel
theorem dX8_detail_97 : decode cX8_detail 97 = .ok (.iload_n 1, 1) := by decide +kernel
theorem dX8_detail_98 : decode cX8_detail 98 = .ok (.iaload, 1) := by decide +kernel
theorem dX8_detail_99 : decode cX8_detail 99 = .ok (.ireturn, 1) := by decide +kernel
theorem dX8_detail_100 : decode cX8_detail 100 = .ok (.aload_n 0, 1) := by decide +kernel
theorem dX8_detail_101 : decode cX8_detail 101 = .ok (.getfield 30, 3) := by decide +kernel
theorem dX8_detail_104 : decode cX8_detail 104 = .ok (.iload_n 1, 1) := by decide +kernel
theorem dX8_detail_105 : decode cX8_detail 105 = .ok (.iaload, 1) := by decide +kernel
theorem dX8_detail_106 : decode cX8_detail 106 = .ok (.ireturn, 1) := by decide +kernel
theorem dX8_detail_107 : decode cX8_detail 107 = .ok (.aload_n 0, 1) := by decide +kernel
theorem dX8_detail_108 : decode cX8_detail 108 = .ok (.getfield 33, 3) := by decide +kernel
theorem dX8_detail_111 : decode cX8_detail 111 = .ok (.iload_n 1, 1) := by decide +kernel
theorem dX8_detail_112 : decode cX8_detail 112 = .ok (.iaload, 1) := by decide +kernel
theorem dX8_detail_113 : decode cX8_detail 113 = .ok (.ireturn, 1) := by decide +kernel
theorem dX8_detail_114 : decode cX8_detail 114 = .ok (.aload_n 0, 1) := by decide +kernel
theorem dX8_detail_115 : decode cX8_detail 115 = .ok (.iload_n 1, 1) := by decide +kernel
theorem dX8_detail_116 : decode cX8_detail 116 = .ok (.invokevirtual 79, 3) := by decide +kernel
theorem dX8_detail_119 : decode cX8_detail 119 = .ok (.ireturn, 1) := by decide +kernel
theorem dX8_detail_120 : decode cX8_detail 120 = .ok (.aload_n 0, 1) := by decide +kernel
theorem dX8_detail_121 : decode cX8_detail 121 = .ok (.getfield 36, 3) := by decide +kernel
theorem dX8_detail_124 : decode cX8_detail 124 = .ok (.iload_n 1, 1) := by decide +kernel
theorem dX8_detail_125 : decode cX8_detail 125 = .ok (.iaload, 1) := by decide +kernel
theorem dX8_detail_126 : decode cX8_detail 126 = .ok (.ireturn, 1) := by decide +kernel
theorem dX8_detail_127 : decode cX8_detail 127 = .ok (.aload_n 0, 1) := by decide +kernel
theorem dX8_detail_128 : decode cX8_detail 128 = .ok (.getfield 39, 3) := by decide +kernel
theorem dX8_detail_131 : decode cX8_detail 131 = .ok (.iload_n 1, 1) := by decide +kernel
theorem dX8_detail_132 : decode cX8_detail 132 = .ok (.iaload, 1) := by decide +kernel
theorem dX8_detail_133 : decode cX8_detail 133 = .ok (.ireturn, 1) := by decide +kernel
theorem dX8_detail_134 : decode cX8_detail 134 = .ok (.aload_n 0, 1) := by decide +kernel
theorem dX8_detail_135 : decode cX8_detail 135 = .ok (.getfield 42, 3) := by decide +kernel
theorem dX8_detail_138 : decode cX8_detail 138 = .ok (.iload_n 1, 1) := by decide +kernel
theorem dX8_detail_139 : decode cX8_detail 139 = .ok (.invokevirtual 68, 3) := by decide +kernel
theorem dX8_detail_142 : decode cX8_detail 142 = .ok (.ireturn, 1) := by decide +kernel
theorem dX8_detail_143 : decode cX8_detail 143 = .ok (.aload_n 0, 1) := by decide +kernel
theorem dX8_detail_144 : decode cX8_detail 144 = .ok (.getfield 42, 3) := by decide +kernel
theorem dX8_detail_147 : decode cX8_detail 147 = .ok (.iload_n 1, 1) := by decide +kernel
theorem dX8_detail_148 : decode cX8_detail 148 = .ok (.invokevirtual 82, 3) := by decide +kernel
theorem dX8_detail_151 : decode cX8_detail 151 = .ok (.ifCond .eq 7, 3) := by decide +kernel
theorem dX8_detail_154 : decode cX8_detail 154 = .ok (.iconst 1, 1) := by decide +kernel
theorem dX8_detail_155 : decode cX8_detail 155 = .ok (.goto 4, 3) := by decide +kernel
theorem dX8_detail_158 : decode cX8_detail 158 = .ok (.iconst 0, 1) := by decide +kernel
theorem dX8_detail_159 : decode cX8_detail 159 = .ok (.ireturn, 1) := by decide +kernel
theorem dX8_detail_160 : decode cX8_detail 160 = .ok (.iconst (-1), 1) := by decide +kernel
theorem dX8_detail_161 : decode cX8_detail 161 = .ok (.ireturn, 1) := by decide +kernel
theorem dX8_isInLane_0 : decode cX8_isInLane 0 = .ok (.aload_n 0, 1) := by decide +kernel
theorem dX8_isInLane_1 : decode cX8_isInLane 1 = .ok (.getfield 42, 3) := by decide +kernel
theorem dX8_isInLane_4 : decode cX8_isInLane 4 = .ok (.iload_n 1, 1) := by decide +kernel
theorem dX8_isInLane_5 : decode cX8_isInLane 5 = .ok (.invokevirtual 62, 3) := by decide +kernel
theorem dX8_isInLane_8 : decode cX8_isInLane 8 = .ok (.ifCond .eq 16, 3) := by decide +kernel
theorem dX8_isInLane_11 : decode cX8_isInLane 11 = .ok (.aload_n 0, 1) := by decide +kernel
theorem dX8_isInLane_12 : decode cX8_isInLane 12 = .ok (.getfield 18, 3) := by decide +kernel
theorem dX8_isInLane_15 : decode cX8_isInLane 15 = .ok (.iload_n 1, 1) := by decide +kernel
theorem dX8_isInLane_16 : decode cX8_isInLane 16 = .ok (.iaload, 1) := by decide +kernel
theorem dX8_isInLane_17 : decode cX8_isInLane 17 = .ok (.ifCond .ne 7, 3) := by decide +kernel
theorem dX8_isInLane_20 : decode cX8_isInLane 20 = .ok (.iconst 1, 1) := by decide +kernel
theorem dX8_isInLane_21 : decode cX8_isInLane 21 = .ok (.goto 4, 3) := by decide +kernel
theorem dX8_isInLane_24 : decode cX8_isInLane 24 = .ok (.iconst 0, 1) := by decide +kernel
theorem dX8_isInLane_25 : decode cX8_isInLane 25 = .ok (.ireturn, 1) := by decide +kernel
theorem dX8_isKnocking_0 : decode cX8_isKnocking 0 = .ok (.aload_n 0, 1) := by decide +kernel
theorem dX8_isKnocking_1 : decode cX8_isKnocking 1 = .ok (.getfield 42, 3) := by decide +kernel
theorem dX8_isKnocking_4 : decode cX8_isKnocking 4 = .ok (.iload_n 1, 1) := by decide +kernel
theorem dX8_isKnocking_5 : decode cX8_isKnocking 5 = .ok (.invokevirtual 62, 3) := by decide +kernel
theorem dX8_isKnocking_8 : decode cX8_isKnocking 8 = .ok (.ifCond .eq 17, 3) := by decide +kernel
theorem dX8_isKnocking_11 : decode cX8_isKnocking 11 = .ok (.aload_n 0, 1) := by decide +kernel
theorem dX8_isKnocking_12 : decode cX8_isKnocking 12 = .ok (.getfield 18, 3) := by decide +kernel
theorem dX8_isKnocking_15 : decode cX8_isKnocking 15 = .ok (.iload_n 1, 1) := by decide +kernel
theorem dX8_isKnocking_16 : decode cX8_isKnocking 16 = .ok (.iaload, 1) := by decide +kernel
theorem dX8_isKnocking_17 : decode cX8_isKnocking 17 = .ok (.iconst 1, 1) := by decide +kernel
theorem dX8_isKnocking_18 : decode cX8_isKnocking 18 = .ok (.if_icmp .ne 7, 3) := by decide +kernel
theorem dX8_isKnocking_21 : decode cX8_isKnocking 21 = .ok (.iconst 1, 1) := by decide +kernel
theorem dX8_isKnocking_22 : decode cX8_isKnocking 22 = .ok (.goto 4, 3) := by decide +kernel
theorem dX8_isKnocking_25 : decode cX8_isKnocking 25 = .ok (.iconst 0, 1) := by decide +kernel
theorem dX8_isKnocking_26 : decode cX8_isKnocking 26 = .ok (.ireturn, 1) := by decide +kernel
theorem dX8_isInside_0 : decode cX8_isInside 0 = .ok (.aload_n 0, 1) := by decide +kernel
theorem dX8_isInside_1 : decode cX8_isInside 1 = .ok (.getfield 42, 3) := by decide +kernel
theorem dX8_isInside_4 : decode cX8_isInside 4 = .ok (.iload_n 1, 1) := by decide +kernel
theorem dX8_isInside_5 : decode cX8_isInside 5 = .ok (.invokevirtual 62, 3) := by decide +kernel
theorem dX8_isInside_8 : decode cX8_isInside 8 = .ok (.ifCond .eq 17, 3) := by decide +kernel
theorem dX8_isInside_11 : decode cX8_isInside 11 = .ok (.aload_n 0, 1) := by decide +kernel
theorem dX8_isInside_12 : decode cX8_isInside 12 = .ok (.getfield 18, 3) := by decide +kernel
theorem dX8_isInside_15 : decode cX8_isInside 15 = .ok (.iload_n 1, 1) := by decide +kernel
theorem dX8_isInside_16 : decode cX8_isInside 16 = .ok (.iaload, 1) := by decide +kernel
theorem dX8_isInside_17 : decode cX8_isInside 17 = .ok (.iconst 2, 1) := by decide +kernel
theorem dX8_isInside_18 : decode cX8_isInside 18 = .ok (.if_icmp .ne 7, 3) := by decide +kernel
theorem dX8_isInside_21 : decode cX8_isInside 21 = .ok (.iconst 1, 1) := by decide +kernel
theorem dX8_isInside_22 : decode cX8_isInside 22 = .ok (.goto 4, 3) := by decide +kernel
theorem dX8_isInside_25 : decode cX8_isInside 25 = .ok (.iconst 0, 1) := by decide +kernel
theorem dX8_isInside_26 : decode cX8_isInside 26 = .ok (.ireturn, 1) := by decide +kernel
theorem dX8_areTogether_0 : decode cX8_areTogether 0 = .ok (.aload_n 0, 1) := by decide +kernel
theorem dX8_areTogether_1 : decode cX8_areTogether 1 = .ok (.iload_n 1, 1) := by decide +kernel
theorem dX8_areTogether_2 : decode cX8_areTogether 2 = .ok (.invokevirtual 85, 3) := by decide +kernel
theorem dX8_areTogether_5 : decode cX8_areTogether 5 = .ok (.ifCond .eq 30, 3) := by decide +kernel
theorem dX8_areTogether_8 : decode cX8_areTogether 8 = .ok (.aload_n 0, 1) := by decide +kernel
theorem dX8_areTogether_9 : decode cX8_areTogether 9 = .ok (.iload_n 2, 1) := by decide +kernel
theorem dX8_areTogether_10 : decode cX8_areTogether 10 = .ok (.invokevirtual 85, 3) := by decide +kernel
theorem dX8_areTogether_13 : decode cX8_areTogether 13 = .ok (.ifCond .eq 22, 3) := by decide +kernel
theorem dX8_areTogether_16 : decode cX8_areTogether 16 = .ok (.aload_n 0, 1) := by decide +kernel
theorem dX8_areTogether_17 : decode cX8_areTogether 17 = .ok (.getfield 21, 3) := by decide +kernel
theorem dX8_areTogether_20 : decode cX8_areTogether 20 = .ok (.iload_n 1, 1) := by decide +kernel
theorem dX8_areTogether_21 : decode cX8_areTogether 21 = .ok (.iaload, 1) := by decide +kernel
theorem dX8_areTogether_22 : decode cX8_areTogether 22 = .ok (.aload_n 0, 1) := by decide +kernel
theorem dX8_areTogether_23 : decode cX8_areTogether 23 = .ok (.getfield 21, 3) := by decide +kernel
theorem dX8_areTogether_26 : decode cX8_areTogether 26 = .ok (.iload_n 2, 1) := by decide +kernel
theorem dX8_areTogether_27 : decode cX8_areTogether 27 = .ok (.iaload, 1) := by decide +kernel
theorem dX8_areTogether_28 : decode cX8_areTogether 28 = .ok (.if_icmp .ne 7, 3) := by decide +kernel
theorem dX8_areTogether_31 : decode cX8_areTogether 31 = .ok (.iconst 1, 1) := by decide +kernel
theorem dX8_areTogether_32 : decode cX8_areTogether 32 = .ok (.goto 4, 3) := by decide +kernel
theorem dX8_areTogether_35 : decode cX8_areTogether 35 = .ok (.iconst 0, 1) := by decide +kernel
theorem dX8_areTogether_36 : decode cX8_areTogether 36 = .ok (.ireturn, 1) := by decide +kernel
theorem dX8_doesKnow_0 : decode cX8_doesKnow 0 = .ok (.aload_n 0, 1) := by decide +kernel
theorem dX8_doesKnow_1 : decode cX8_doesKnow 1 = .ok (.getfield 42, 3) := by decide +kernel
theorem dX8_doesKnow_4 : decode cX8_doesKnow 4 = .ok (.iload_n 1, 1) := by decide +kernel
theorem dX8_doesKnow_5 : decode cX8_doesKnow 5 = .ok (.invokevirtual 62, 3) := by decide +kernel
theorem dX8_doesKnow_8 : decode cX8_doesKnow 8 = .ok (.ifCond .eq 31, 3) := by decide +kernel
theorem dX8_doesKnow_11 : decode cX8_doesKnow 11 = .ok (.aload_n 0, 1) := by decide +kernel
theorem dX8_doesKnow_12 : decode cX8_doesKnow 12 = .ok (.getfield 42, 3) := by decide +kernel
theorem dX8_doesKnow_15 : decode cX8_doesKnow 15 = .ok (.iload_n 2, 1) := by decide +kernel
theorem dX8_doesKnow_16 : decode cX8_doesKnow 16 = .ok (.invokevirtual 62, 3) := by decide +kernel
theorem dX8_doesKnow_19 : decode cX8_doesKnow 19 = .ok (.ifCond .eq 20, 3) := by decide +kernel
theorem dX8_doesKnow_22 : decode cX8_doesKnow 22 = .ok (.aload_n 0, 1) := by decide +kernel
theorem dX8_doesKnow_23 : decode cX8_doesKnow 23 = .ok (.getfield 33, 3) := by decide +kernel
theorem dX8_doesKnow_26 : decode cX8_doesKnow 26 = .ok (.iload_n 1, 1) := by decide +kernel
theorem dX8_doesKnow_27 : decode cX8_doesKnow 27 = .ok (.iaload, 1) := by decide +kernel
theorem dX8_doesKnow_28 : decode cX8_doesKnow 28 = .ok (.iload_n 2, 1) := by decide +kernel
theorem dX8_doesKnow_29 : decode cX8_doesKnow 29 = .ok (.invokestatic 88, 3) := by decide +kernel
theorem dX8_doesKnow_32 : decode cX8_doesKnow 32 = .ok (.ifCond .eq 7, 3) := by decide +kernel
theorem dX8_doesKnow_35 : decode cX8_doesKnow 35 = .ok (.iconst 1, 1) := by decide +kernel
theorem dX8_doesKnow_36 : decode cX8_doesKnow 36 = .ok (.goto 4, 3) := by decide +kernel
theorem dX8_doesKnow_39 : decode cX8_doesKnow 39 = .ok (.iconst 0, 1) := by decide +kernel
theorem dX8_doesKnow_40 : decode cX8_doesKnow 40 = .ok (.ireturn, 1) := by decide +kernel
theorem dX8_knownTo_0 : decode cX8_knownTo 0 = .ok (.aload_n 0, 1) := by decide +kernel
theorem dX8_knownTo_1 : decode cX8_knownTo 1 = .ok (.getfield 42, 3) := by decide +kernel
theorem dX8_knownTo_4 : decode cX8_knownTo 4 = .ok (.iload_n 1, 1) := by decide +kernel
theorem dX8_knownTo_5 : decode cX8_knownTo 5 = .ok (.invokevirtual 62, 3) := by decide +kernel
theorem dX8_knownTo_8 : decode cX8_knownTo 8 = .ok (.ifCond .eq 12, 3) := by decide +kernel
theorem dX8_knownTo_11 : decode cX8_knownTo 11 = .ok (.aload_n 0, 1) := by decide +kernel
theorem dX8_knownTo_12 : decode cX8_knownTo 12 = .ok (.getfield 33, 3) := by decide +kernel
theorem dX8_knownTo_15 : decode cX8_knownTo 15 = .ok (.iload_n 1, 1) := by decide +kernel
theorem dX8_knownTo_16 : decode cX8_knownTo 16 = .ok (.iaload, 1) := by decide +kernel
theorem dX8_knownTo_17 : decode cX8_knownTo 17 = .ok (.goto 4, 3) := by decide +kernel
theorem dX8_knownTo_20 : decode cX8_knownTo 20 = .ok (.iconst 0, 1) := by decide +kernel
theorem dX8_knownTo_21 : decode cX8_knownTo 21 = .ok (.ireturn, 1) := by decide +kernel
theorem dX8_strangersOf_0 : decode cX8_strangersOf 0 = .ok (.aload_n 0, 1) := by decide +kernel
theorem dX8_strangersOf_1 : decode cX8_strangersOf 1 = .ok (.getfield 42, 3) := by decide +kernel
theorem dX8_strangersOf_4 : decode cX8_strangersOf 4 = .ok (.iload_n 1, 1) := by decide +kernel
theorem dX8_strangersOf_5 : decode cX8_strangersOf 5 = .ok (.invokevirtual 72, 3) := by decide +kernel
theorem dX8_strangersOf_8 : decode cX8_strangersOf 8 = .ok (.istore_n 2, 1) := by decide +kernel
theorem dX8_strangersOf_9 : decode cX8_strangersOf 9 = .ok (.iconst 0, 1) := by decide +kernel
theorem dX8_strangersOf_10 : decode cX8_strangersOf 10 = .ok (.istore_n 3, 1) := by decide +kernel
theorem dX8_strangersOf_11 : decode cX8_strangersOf 11 = .ok (.iconst 0, 1) := by decide +kernel
theorem dX8_strangersOf_12 : decode cX8_strangersOf 12 = .ok (.istore 4, 2) := by decide +kernel
theorem dX8_strangersOf_14 : decode cX8_strangersOf 14 = .ok (.iload 4, 2) := by decide +kernel
theorem dX8_strangersOf_16 : decode cX8_strangersOf 16 = .ok (.bipush 8, 2) := by decide +kernel
theorem dX8_strangersOf_18 : decode cX8_strangersOf 18 = .ok (.if_icmp .ge 45, 3) := by decide +kernel
theorem dX8_strangersOf_21 : decode cX8_strangersOf 21 = .ok (.iload 4, 2) := by decide +kernel
theorem dX8_strangersOf_23 : decode cX8_strangersOf 23 = .ok (.aload_n 0, 1) := by decide +kernel
theorem dX8_strangersOf_24 : decode cX8_strangersOf 24 = .ok (.getfield 42, 3) := by decide +kernel
theorem dX8_strangersOf_27 : decode cX8_strangersOf 27 = .ok (.getfield 92, 3) := by decide +kernel
theorem dX8_strangersOf_30 : decode cX8_strangersOf 30 = .ok (.if_icmp .ge 33, 3) := by decide +kernel
theorem dX8_strangersOf_33 : decode cX8_strangersOf 33 = .ok (.aload_n 0, 1) := by decide +kernel
theorem dX8_strangersOf_34 : decode cX8_strangersOf 34 = .ok (.getfield 33, 3) := by decide +kernel
theorem dX8_strangersOf_37 : decode cX8_strangersOf 37 = .ok (.iload 4, 2) := by decide +kernel
theorem dX8_strangersOf_39 : decode cX8_strangersOf 39 = .ok (.iaload, 1) := by decide +kernel
theorem dX8_strangersOf_40 : decode cX8_strangersOf 40 = .ok (.iconst 1, 1) := by decide +kernel
theorem dX8_strangersOf_41 : decode cX8_strangersOf 41 = .ok (.iload 4, 2) := by decide +kernel
theorem dX8_strangersOf_43 : decode cX8_strangersOf 43 = .ok (.ishl, 1) := by decide +kernel
theorem dX8_strangersOf_44 : decode cX8_strangersOf 44 = .ok (.ior, 1) := by decide +kernel
theorem dX8_strangersOf_45 : decode cX8_strangersOf 45 = .ok (.iload_n 2, 1) := by decide +kernel
theorem dX8_strangersOf_46 : decode cX8_strangersOf 46 = .ok (.iand, 1) := by decide +kernel
theorem dX8_strangersOf_47 : decode cX8_strangersOf 47 = .ok (.ifCond .ne 10, 3) := by decide +kernel
theorem dX8_strangersOf_50 : decode cX8_strangersOf 50 = .ok (.iload_n 3, 1) := by decide +kernel
theorem dX8_strangersOf_51 : decode cX8_strangersOf 51 = .ok (.iconst 1, 1) := by decide +kernel
theorem dX8_strangersOf_52 : decode cX8_strangersOf 52 = .ok (.iload 4, 2) := by decide +kernel
theorem dX8_strangersOf_54 : decode cX8_strangersOf 54 = .ok (.ishl, 1) := by decide +kernel
theorem dX8_strangersOf_55 : decode cX8_strangersOf 55 = .ok (.ior, 1) := by decide +kernel
theorem dX8_strangersOf_56 : decode cX8_strangersOf 56 = .ok (.istore_n 3, 1) := by decide +kernel
theorem dX8_strangersOf_57 : decode cX8_strangersOf 57 = .ok (.iinc 4 1, 3) := by decide +kernel
theorem dX8_strangersOf_60 : decode cX8_strangersOf 60 = .ok (.goto (-46), 3) := by decide +kernel
theorem dX8_strangersOf_63 : decode cX8_strangersOf 63 = .ok (.iload_n 3, 1) := by decide +kernel
theorem dX8_strangersOf_64 : decode cX8_strangersOf 64 = .ok (.ireturn, 1) := by decide +kernel
theorem dX8_housesWithStrangers_0 : decode cX8_housesWithStrangers 0 = .ok (.iconst 0, 1) := by decide +kernel
theorem dX8_housesWithStrangers_1 : decode cX8_housesWithStrangers 1 = .ok (.istore_n 1, 1) := by decide +kernel
theorem dX8_housesWithStrangers_2 : decode cX8_housesWithStrangers 2 = .ok (.iconst 0, 1) := by decide +kernel
theorem dX8_housesWithStrangers_3 : decode cX8_housesWithStrangers 3 = .ok (.istore_n 2, 1) := by decide +kernel
theorem dX8_housesWithStrangers_4 : decode cX8_housesWithStrangers 4 = .ok (.iload_n 2, 1) := by decide +kernel
theorem dX8_housesWithStrangers_5 : decode cX8_housesWithStrangers 5 = .ok (.aload_n 0, 1) := by decide +kernel
theorem dX8_housesWithStrangers_6 : decode cX8_housesWithStrangers 6 = .ok (.getfield 42, 3) := by decide +kernel
theorem dX8_housesWithStrangers_9 : decode cX8_housesWithStrangers 9 = .ok (.getfield 95, 3) := by decide +kernel
theorem dX8_housesWithStrangers_12 : decode cX8_housesWithStrangers 12 = .ok (.if_icmp .ge 23, 3) := by decide +kernel
theorem dX8_housesWithStrangers_15 : decode cX8_housesWithStrangers 15 = .ok (.aload_n 0, 1) := by decide +kernel
theorem dX8_housesWithStrangers_16 : decode cX8_housesWithStrangers 16 = .ok (.iload_n 2, 1) := by decide +kernel
theorem dX8_housesWithStrangers_17 : decode cX8_housesWithStrangers 17 = .ok (.invokevirtual 98, 3) := by decide +kernel
theorem dX8_housesWithStrangers_20 : decode cX8_housesWithStrangers 20 = .ok (.ifCond .eq 9, 3) := by decide +kernel
theorem dX8_housesWithStrangers_23 : decode cX8_housesWithStrangers 23 = .ok (.iload_n 1, 1) := by decide +kernel
theorem dX8_housesWithStrangers_24 : decode cX8_housesWithStrangers 24 = .ok (.iconst 1, 1) := by decide +kernel
theorem dX8_housesWithStrangers_25 : decode cX8_housesWithStrangers 25 = .ok (.iload_n 2, 1) := by decide +kernel
theorem dX8_housesWithStrangers_26 : decode cX8_housesWithStrangers 26 = .ok (.ishl, 1) := by decide +kernel
theorem dX8_housesWithStrangers_27 : decode cX8_housesWithStrangers 27 = .ok (.ior, 1) := by decide +kernel
theorem dX8_housesWithStrangers_28 : decode cX8_housesWithStrangers 28 = .ok (.istore_n 1, 1) := by decide +kernel
theorem dX8_housesWithStrangers_29 : decode cX8_housesWithStrangers 29 = .ok (.iinc 2 1, 3) := by decide +kernel
theorem dX8_housesWithStrangers_32 : decode cX8_housesWithStrangers 32 = .ok (.goto (-28), 3) := by decide +kernel
theorem dX8_housesWithStrangers_35 : decode cX8_housesWithStrangers 35 = .ok (.iload_n 1, 1) := by decide +kernel
theorem dX8_housesWithStrangers_36 : decode cX8_housesWithStrangers 36 = .ok (.ireturn, 1) := by decide +kernel
theorem dX8_thoseWhoAre_0 : decode cX8_thoseWhoAre 0 = .ok (.iconst 0, 1) := by decide +kernel
theorem dX8_thoseWhoAre_1 : decode cX8_thoseWhoAre 1 = .ok (.istore_n 2, 1) := by decide +kernel
theorem dX8_thoseWhoAre_2 : decode cX8_thoseWhoAre 2 = .ok (.iconst 0, 1) := by decide +kernel
theorem dX8_thoseWhoAre_3 : decode cX8_thoseWhoAre 3 = .ok (.istore_n 3, 1) := by decide +kernel
theorem dX8_thoseWhoAre_4 : decode cX8_thoseWhoAre 4 = .ok (.iload_n 3, 1) := by decide +kernel
theorem dX8_thoseWhoAre_5 : decode cX8_thoseWhoAre 5 = .ok (.bipush 8, 2) := by decide +kernel
theorem dX8_thoseWhoAre_7 : decode cX8_thoseWhoAre 7 = .ok (.if_icmp .ge 36, 3) := by decide +kernel
theorem dX8_thoseWhoAre_10 : decode cX8_thoseWhoAre 10 = .ok (.iload_n 3, 1) := by decide +kernel
theorem dX8_thoseWhoAre_11 : decode cX8_thoseWhoAre 11 = .ok (.aload_n 0, 1) := by decide +kernel
theorem dX8_thoseWhoAre_12 : decode cX8_thoseWhoAre 12 = .ok (.getfield 42, 3) := by decide +kernel
theorem dX8_thoseWhoAre_15 : decode cX8_thoseWhoAre 15 = .ok (.getfield 92, 3) := by decide +kernel
theorem dX8_thoseWhoAre_18 : decode cX8_thoseWhoAre 18 = .ok (.if_icmp .ge 25, 3) := by decide +kernel
theorem dX8_thoseWhoAre_21 : decode cX8_thoseWhoAre 21 = .ok (.aload_n 0, 1) := by decide +kernel
theorem dX8_thoseWhoAre_22 : decode cX8_thoseWhoAre 22 = .ok (.getfield 18, 3) := by decide +kernel
theorem dX8_thoseWhoAre_25 : decode cX8_thoseWhoAre 25 = .ok (.iload_n 3, 1) := by decide +kernel
theorem dX8_thoseWhoAre_26 : decode cX8_thoseWhoAre 26 = .ok (.iaload, 1) := by decide +kernel
theorem dX8_thoseWhoAre_27 : decode cX8_thoseWhoAre 27 = .ok (.iload_n 1, 1) := by decide +kernel
theorem dX8_thoseWhoAre_28 : decode cX8_thoseWhoAre 28 = .ok (.if_icmp .ne 9, 3) := by decide +kernel
theorem dX8_thoseWhoAre_31 : decode cX8_thoseWhoAre 31 = .ok (.iload_n 2, 1) := by decide +kernel
theorem dX8_thoseWhoAre_32 : decode cX8_thoseWhoAre 32 = .ok (.iconst 1, 1) := by decide +kernel
theorem dX8_thoseWhoAre_33 : decode cX8_thoseWhoAre 33 = .ok (.iload_n 3, 1) := by decide +kernel
theorem dX8_thoseWhoAre_34 : decode cX8_thoseWhoAre 34 = .ok (.ishl, 1) := by decide +kernel
theorem dX8_thoseWhoAre_35 : decode cX8_thoseWhoAre 35 = .ok (.ior, 1) := by decide +kernel
theorem dX8_thoseWhoAre_36 : decode cX8_thoseWhoAre 36 = .ok (.istore_n 2, 1) := by decide +kernel
theorem dX8_thoseWhoAre_37 : decode cX8_thoseWhoAre 37 = .ok (.iinc 3 1, 3) := by decide +kernel
theorem dX8_thoseWhoAre_40 : decode cX8_thoseWhoAre 40 = .ok (.goto (-36), 3) := by decide +kernel
theorem dX8_thoseWhoAre_43 : decode cX8_thoseWhoAre 43 = .ok (.iload_n 2, 1) := by decide +kernel
theorem dX8_thoseWhoAre_44 : decode cX8_thoseWhoAre 44 = .ok (.ireturn, 1) := by decide +kernel
theorem dX8_thoseAt_0 : decode cX8_thoseAt 0 = .ok (.iconst 0, 1) := by decide +kernel
theorem dX8_thoseAt_1 : decode cX8_thoseAt 1 = .ok (.istore_n 3, 1) := by decide +kernel
theorem dX8_thoseAt_2 : decode cX8_thoseAt 2 = .ok (.iconst 0, 1) := by decide +kernel
theorem dX8_thoseAt_3 : decode cX8_thoseAt 3 = .ok (.istore 4, 2) := by decide +kernel
theorem dX8_thoseAt_5 : decode cX8_thoseAt 5 = .ok (.iload 4, 2) := by decide +kernel
theorem dX8_thoseAt_7 : decode cX8_thoseAt 7 = .ok (.bipush 8, 2) := by decide +kernel
theorem dX8_thoseAt_9 : decode cX8_thoseAt 9 = .ok (.if_icmp .ge 50, 3) := by decide +kernel
theorem dX8_thoseAt_12 : decode cX8_thoseAt 12 = .ok (.iload 4, 2) := by decide +kernel
theorem dX8_thoseAt_14 : decode cX8_thoseAt 14 = .ok (.aload_n 0, 1) := by decide +kernel
theorem dX8_thoseAt_15 : decode cX8_thoseAt 15 = .ok (.getfield 42, 3) := by decide +kernel
theorem dX8_thoseAt_18 : decode cX8_thoseAt 18 = .ok (.getfield 92, 3) := by decide +kernel
theorem dX8_thoseAt_21 : decode cX8_thoseAt 21 = .ok (.if_icmp .ge 38, 3) := by decide +kernel
theorem dX8_thoseAt_24 : decode cX8_thoseAt 24 = .ok (.aload_n 0, 1) := by decide +kernel
theorem dX8_thoseAt_25 : decode cX8_thoseAt 25 = .ok (.getfield 18, 3) := by decide +kernel
theorem dX8_thoseAt_28 : decode cX8_thoseAt 28 = .ok (.iload 4, 2) := by decide +kernel
theorem dX8_thoseAt_30 : decode cX8_thoseAt 30 = .ok (.iaload, 1) := by decide +kernel
theorem dX8_thoseAt_31 : decode cX8_thoseAt 31 = .ok (.iload_n 2, 1) := by decide +kernel
theorem dX8_thoseAt_32 : decode cX8_thoseAt 32 = .ok (.if_icmp .ne 21, 3) := by decide +kernel
theorem dX8_thoseAt_35 : decode cX8_thoseAt 35 = .ok (.aload_n 0, 1) := by decide +kernel
theorem dX8_thoseAt_36 : decode cX8_thoseAt 36 = .ok (.getfield 27, 3) := by decide +kernel
theorem dX8_thoseAt_39 : decode cX8_thoseAt 39 = .ok (.iload 4, 2) := by decide +kernel
theorem dX8_thoseAt_41 : decode cX8_thoseAt 41 = .ok (.iaload, 1) := by decide +kernel
theorem dX8_thoseAt_42 : decode cX8_thoseAt 42 = .ok (.iload_n 1, 1) := by decide +kernel
theorem dX8_thoseAt_43 : decode cX8_thoseAt 43 = .ok (.if_icmp .ne 10, 3) := by decide +kernel
theorem dX8_thoseAt_46 : decode cX8_thoseAt 46 = .ok (.iload_n 3, 1) := by decide +kernel
theorem dX8_thoseAt_47 : decode cX8_thoseAt 47 = .ok (.iconst 1, 1) := by decide +kernel
theorem dX8_thoseAt_48 : decode cX8_thoseAt 48 = .ok (.iload 4, 2) := by decide +kernel
theorem dX8_thoseAt_50 : decode cX8_thoseAt 50 = .ok (.ishl, 1) := by decide +kernel
theorem dX8_thoseAt_51 : decode cX8_thoseAt 51 = .ok (.ior, 1) := by decide +kernel
theorem dX8_thoseAt_52 : decode cX8_thoseAt 52 = .ok (.istore_n 3, 1) := by decide +kernel
theorem dX8_thoseAt_53 : decode cX8_thoseAt 53 = .ok (.iinc 4 1, 3) := by decide +kernel
theorem dX8_thoseAt_56 : decode cX8_thoseAt 56 = .ok (.goto (-51), 3) := by decide +kernel
theorem dX8_thoseAt_59 : decode cX8_thoseAt 59 = .ok (.iload_n 3, 1) := by decide +kernel
theorem dX8_thoseAt_60 : decode cX8_thoseAt 60 = .ok (.ireturn, 1) := by decide +kernel
theorem dX8_housesToCallAt_0 : decode cX8_housesToCallAt 0 = .ok (.iconst 0, 1) := by decide +kernel
theorem dX8_housesToCallAt_1 : decode cX8_housesToCallAt 1 = .ok (.istore_n 2, 1) := by decide +kernel
theorem dX8_housesToCallAt_2 : decode cX8_housesToCallAt 2 = .ok (.iconst 0, 1) := by decide +kernel
theorem dX8_housesToCallAt_3 : decode cX8_housesToCallAt 3 = .ok (.istore_n 3, 1) := by decide +kernel
theorem dX8_housesToCallAt_4 : decode cX8_housesToCallAt 4 = .ok (.iload_n 3, 1) := by decide +kernel
theorem dX8_housesToCallAt_5 : decode cX8_housesToCallAt 5 = .ok (.aload_n 0, 1) := by decide +kernel
theorem dX8_housesToCallAt_6 : decode cX8_housesToCallAt 6 = .ok (.getfield 53, 3) := by decide +kernel
theorem dX8_housesToCallAt_9 : decode cX8_housesToCallAt 9 = .ok (.if_icmp .ge 36, 3) := by decide +kernel
theorem dX8_housesToCallAt_12 : decode cX8_housesToCallAt 12 = .ok (.iload_n 3, 1) := by decide +kernel
theorem dX8_housesToCallAt_13 : decode cX8_housesToCallAt 13 = .ok (.bipush 12, 2) := by decide +kernel
theorem dX8_housesToCallAt_15 : decode cX8_housesToCallAt 15 = .ok (.if_icmp .ge 30, 3) := by decide +kernel
theorem dX8_housesToCallAt_18 : decode cX8_housesToCallAt 18 = .ok (.aload_n 0, 1) := by decide +kernel
theorem dX8_housesToCallAt_19 : decode cX8_housesToCallAt 19 = .ok (.getfield 9, 3) := by decide +kernel
theorem dX8_housesToCallAt_22 : decode cX8_housesToCallAt 22 = .ok (.iload_n 3, 1) := by decide +kernel
theorem dX8_housesToCallAt_23 : decode cX8_housesToCallAt 23 = .ok (.iaload, 1) := by decide +kernel
theorem dX8_housesToCallAt_24 : decode cX8_housesToCallAt 24 = .ok (.iload_n 1, 1) := by decide +kernel
theorem dX8_housesToCallAt_25 : decode cX8_housesToCallAt 25 = .ok (.if_icmp .ne 14, 3) := by decide +kernel
theorem dX8_housesToCallAt_28 : decode cX8_housesToCallAt 28 = .ok (.iload_n 2, 1) := by decide +kernel
theorem dX8_housesToCallAt_29 : decode cX8_housesToCallAt 29 = .ok (.iconst 1, 1) := by decide +kernel
theorem dX8_housesToCallAt_30 : decode cX8_housesToCallAt 30 = .ok (.aload_n 0, 1) := by decide +kernel
theorem dX8_housesToCallAt_31 : decode cX8_housesToCallAt 31 = .ok (.getfield 15, 3) := by decide +kernel
theorem dX8_housesToCallAt_34 : decode cX8_housesToCallAt 34 = .ok (.iload_n 3, 1) := by decide +kernel
theorem dX8_housesToCallAt_35 : decode cX8_housesToCallAt 35 = .ok (.iaload, 1) := by decide +kernel
theorem dX8_housesToCallAt_36 : decode cX8_housesToCallAt 36 = .ok (.ishl, 1) := by decide +kernel
theorem dX8_housesToCallAt_37 : decode cX8_housesToCallAt 37 = .ok (.ior, 1) := by decide +kernel
theorem dX8_housesToCallAt_38 : decode cX8_housesToCallAt 38 = .ok (.istore_n 2, 1) := by decide +kernel
theorem dX8_housesToCallAt_39 : decode cX8_housesToCallAt 39 = .ok (.iinc 3 1, 3) := by decide +kernel
theorem dX8_housesToCallAt_42 : decode cX8_housesToCallAt 42 = .ok (.goto (-38), 3) := by decide +kernel
theorem dX8_housesToCallAt_45 : decode cX8_housesToCallAt 45 = .ok (.iload_n 2, 1) := by decide +kernel
theorem dX8_housesToCallAt_46 : decode cX8_housesToCallAt 46 = .ok (.ireturn, 1) := by decide +kernel
theorem dX8_openedInAll_0 : decode cX8_openedInAll 0 = .ok (.iconst 0, 1) := by decide +kernel
theorem dX8_openedInAll_1 : decode cX8_openedInAll 1 = .ok (.istore_n 1, 1) := by decide +kernel
theorem dX8_openedInAll_2 : decode cX8_openedInAll 2 = .ok (.iconst 0, 1) := by decide +kernel
theorem dX8_openedInAll_3 : decode cX8_openedInAll 3 = .ok (.istore_n 2, 1) := by decide +kernel
theorem dX8_openedInAll_4 : decode cX8_openedInAll 4 = .ok (.iload_n 2, 1) := by decide +kernel
theorem dX8_openedInAll_5 : decode cX8_openedInAll 5 = .ok (.bipush 8, 2) := by decide +kernel
theorem dX8_openedInAll_7 : decode cX8_openedInAll 7 = .ok (.if_icmp .ge 29, 3) := by decide +kernel
theorem dX8_openedInAll_10 : decode cX8_openedInAll 10 = .ok (.iload_n 2, 1) := by decide +kernel
theorem dX8_openedInAll_11 : decode cX8_openedInAll 11 = .ok (.aload_n 0, 1) := by decide +kernel
theorem dX8_openedInAll_12 : decode cX8_openedInAll 12 = .ok (.getfield 42, 3) := by decide +kernel
theorem dX8_openedInAll_15 : decode cX8_openedInAll 15 = .ok (.getfield 92, 3) := by decide +kernel
theorem dX8_openedInAll_18 : decode cX8_openedInAll 18 = .ok (.if_icmp .ge 18, 3) := by decide +kernel
theorem dX8_openedInAll_21 : decode cX8_openedInAll 21 = .ok (.iload_n 1, 1) := by decide +kernel
theorem dX8_openedInAll_22 : decode cX8_openedInAll 22 = .ok (.aload_n 0, 1) := by decide +kernel
theorem dX8_openedInAll_23 : decode cX8_openedInAll 23 = .ok (.getfield 39, 3) := by decide +kernel
theorem dX8_openedInAll_26 : decode cX8_openedInAll 26 = .ok (.iload_n 2, 1) := by decide +kernel
theorem dX8_openedInAll_27 : decode cX8_openedInAll 27 = .ok (.iaload, 1) := by decide +kernel
theorem dX8_openedInAll_28 : decode cX8_openedInAll 28 = .ok (.iadd, 1) := by decide +kernel
theorem dX8_openedInAll_29 : decode cX8_openedInAll 29 = .ok (.istore_n 1, 1) := by decide +kernel
theorem dX8_openedInAll_30 : decode cX8_openedInAll 30 = .ok (.iinc 2 1, 3) := by decide +kernel
theorem dX8_openedInAll_33 : decode cX8_openedInAll 33 = .ok (.goto (-29), 3) := by decide +kernel
theorem dX8_openedInAll_36 : decode cX8_openedInAll 36 = .ok (.iload_n 1, 1) := by decide +kernel
theorem dX8_openedInAll_37 : decode cX8_openedInAll 37 = .ok (.ireturn, 1) := by decide +kernel
theorem dX8_knownInAll_0 : decode cX8_knownInAll 0 = .ok (.iconst 0, 1) := by decide +kernel
theorem dX8_knownInAll_1 : decode cX8_knownInAll 1 = .ok (.istore_n 1, 1) := by decide +kernel
theorem dX8_knownInAll_2 : decode cX8_knownInAll 2 = .ok (.iconst 0, 1) := by decide +kernel
theorem dX8_knownInAll_3 : decode cX8_knownInAll 3 = .ok (.istore_n 2, 1) := by decide +kernel
theorem dX8_knownInAll_4 : decode cX8_knownInAll 4 = .ok (.iload_n 2, 1) := by decide +kernel
theorem dX8_knownInAll_5 : decode cX8_knownInAll 5 = .ok (.bipush 8, 2) := by decide +kernel
theorem dX8_knownInAll_7 : decode cX8_knownInAll 7 = .ok (.if_icmp .ge 32, 3) := by decide +kernel
theorem dX8_knownInAll_10 : decode cX8_knownInAll 10 = .ok (.iload_n 2, 1) := by decide +kernel
theorem dX8_knownInAll_11 : decode cX8_knownInAll 11 = .ok (.aload_n 0, 1) := by decide +kernel
theorem dX8_knownInAll_12 : decode cX8_knownInAll 12 = .ok (.getfield 42, 3) := by decide +kernel
theorem dX8_knownInAll_15 : decode cX8_knownInAll 15 = .ok (.getfield 92, 3) := by decide +kernel
theorem dX8_knownInAll_18 : decode cX8_knownInAll 18 = .ok (.if_icmp .ge 21, 3) := by decide +kernel
theorem dX8_knownInAll_21 : decode cX8_knownInAll 21 = .ok (.iload_n 1, 1) := by decide +kernel
theorem dX8_knownInAll_22 : decode cX8_knownInAll 22 = .ok (.aload_n 0, 1) := by decide +kernel
theorem dX8_knownInAll_23 : decode cX8_knownInAll 23 = .ok (.getfield 33, 3) := by decide +kernel
theorem dX8_knownInAll_26 : decode cX8_knownInAll 26 = .ok (.iload_n 2, 1) := by decide +kernel
theorem dX8_knownInAll_27 : decode cX8_knownInAll 27 = .ok (.iaload, 1) := by decide +kernel
theorem dX8_knownInAll_28 : decode cX8_knownInAll 28 = .ok (.invokestatic 101, 3) := by decide +kernel
theorem dX8_knownInAll_31 : decode cX8_knownInAll 31 = .ok (.iadd, 1) := by decide +kernel
theorem dX8_knownInAll_32 : decode cX8_knownInAll 32 = .ok (.istore_n 1, 1) := by decide +kernel
theorem dX8_knownInAll_33 : decode cX8_knownInAll 33 = .ok (.iinc 2 1, 3) := by decide +kernel
theorem dX8_knownInAll_36 : decode cX8_knownInAll 36 = .ok (.goto (-32), 3) := by decide +kernel
theorem dX8_knownInAll_39 : decode cX8_knownInAll 39 = .ok (.iload_n 1, 1) := by decide +kernel
theorem dX8_knownInAll_40 : decode cX8_knownInAll 40 = .ok (.ireturn, 1) := by decide +kernel
theorem dX8_whoOpenedMost_0 : decode cX8_whoOpenedMost 0 = .ok (.iconst (-1), 1) := by decide +kernel
theorem dX8_whoOpenedMost_1 : decode cX8_whoOpenedMost 1 = .ok (.istore_n 1, 1) := by decide +kernel
theorem dX8_whoOpenedMost_2 : decode cX8_whoOpenedMost 2 = .ok (.iconst 0, 1) := by decide +kernel
theorem dX8_whoOpenedMost_3 : decode cX8_whoOpenedMost 3 = .ok (.istore_n 2, 1) := by decide +kernel
theorem dX8_whoOpenedMost_4 : decode cX8_whoOpenedMost 4 = .ok (.iconst 0, 1) := by decide +kernel
theorem dX8_whoOpenedMost_5 : decode cX8_whoOpenedMost 5 = .ok (.istore_n 3, 1) := by decide +kernel
theorem dX8_whoOpenedMost_6 : decode cX8_whoOpenedMost 6 = .ok (.iload_n 3, 1) := by decide +kernel
theorem dX8_whoOpenedMost_7 : decode cX8_whoOpenedMost 7 = .ok (.bipush 8, 2) := by decide +kernel
theorem dX8_whoOpenedMost_9 : decode cX8_whoOpenedMost 9 = .ok (.if_icmp .ge 39, 3) := by decide +kernel
theorem dX8_whoOpenedMost_12 : decode cX8_whoOpenedMost 12 = .ok (.iload_n 3, 1) := by decide +kernel
theorem dX8_whoOpenedMost_13 : decode cX8_whoOpenedMost 13 = .ok (.aload_n 0, 1) := by decide +kernel
theorem dX8_whoOpenedMost_14 : decode cX8_whoOpenedMost 14 = .ok (.getfield 42, 3) := by decide +kernel
theorem dX8_whoOpenedMost_17 : decode cX8_whoOpenedMost 17 = .ok (.getfield 92, 3) := by decide +kernel
theorem dX8_whoOpenedMost_20 : decode cX8_whoOpenedMost 20 = .ok (.if_icmp .ge 28, 3) := by decide +kernel
theorem dX8_whoOpenedMost_23 : decode cX8_whoOpenedMost 23 = .ok (.aload_n 0, 1) := by decide +kernel
theorem dX8_whoOpenedMost_24 : decode cX8_whoOpenedMost 24 = .ok (.getfield 39, 3) := by decide +kernel
theorem dX8_whoOpenedMost_27 : decode cX8_whoOpenedMost 27 = .ok (.iload_n 3, 1) := by decide +kernel
theorem dX8_whoOpenedMost_28 : decode cX8_whoOpenedMost 28 = .ok (.iaload, 1) := by decide +kernel
theorem dX8_whoOpenedMost_29 : decode cX8_whoOpenedMost 29 = .ok (.iload_n 2, 1) := by decide +kernel
theorem dX8_whoOpenedMost_30 : decode cX8_whoOpenedMost 30 = .ok (.if_icmp .le 12, 3) := by decide +kernel
theorem dX8_whoOpenedMost_33 : decode cX8_whoOpenedMost 33 = .ok (.iload_n 3, 1) := by decide +kernel
theorem dX8_whoOpenedMost_34 : decode cX8_whoOpenedMost 34 = .ok (.istore_n 1, 1) := by decide +kernel
theorem dX8_whoOpenedMost_35 : decode cX8_whoOpenedMost 35 = .ok (.aload_n 0, 1) := by decide +kernel
theorem dX8_whoOpenedMost_36 : decode cX8_whoOpenedMost 36 = .ok (.getfield 39, 3) := by decide +kernel
theorem dX8_whoOpenedMost_39 : decode cX8_whoOpenedMost 39 = .ok (.iload_n 3, 1) := by decide +kernel
theorem dX8_whoOpenedMost_40 : decode cX8_whoOpenedMost 40 = .ok (.iaload, 1) := by decide +kernel
theorem dX8_whoOpenedMost_41 : decode cX8_whoOpenedMost 41 = .ok (.istore_n 2, 1) := by decide +kernel
theorem dX8_whoOpenedMost_42 : decode cX8_whoOpenedMost 42 = .ok (.iinc 3 1, 3) := by decide +kernel
theorem dX8_whoOpenedMost_45 : decode cX8_whoOpenedMost 45 = .ok (.goto (-39), 3) := by decide +kernel
theorem dX8_whoOpenedMost_48 : decode cX8_whoOpenedMost 48 = .ok (.iload_n 1, 1) := by decide +kernel
theorem dX8_whoOpenedMost_49 : decode cX8_whoOpenedMost 49 = .ok (.ireturn, 1) := by decide +kernel
theorem dX8_tryKnock_0 : decode cX8_tryKnock 0 = .ok (.aload_n 0, 1) := by decide +kernel
theorem dX8_tryKnock_1 : decode cX8_tryKnock 1 = .ok (.getfield 42, 3) := by decide +kernel
theorem dX8_tryKnock_4 : decode cX8_tryKnock 4 = .ok (.iload_n 1, 1) := by decide +kernel
theorem dX8_tryKnock_5 : decode cX8_tryKnock 5 = .ok (.invokevirtual 62, 3) := by decide +kernel
theorem dX8_tryKnock_8 : decode cX8_tryKnock 8 = .ok (.ifCond .eq 14, 3) := by decide +kernel
theorem dX8_tryKnock_11 : decode cX8_tryKnock 11 = .ok (.aload_n 0, 1) := by decide +kernel
theorem dX8_tryKnock_12 : decode cX8_tryKnock 12 = .ok (.getfield 42, 3) := by decide +kernel
theorem dX8_tryKnock_15 : decode cX8_tryKnock 15 = .ok (.iload_n 2, 1) := by decide +kernel
theorem dX8_tryKnock_16 : decode cX8_tryKnock 16 = .ok (.invokevirtual 106, 3) := by decide +kernel
theorem dX8_tryKnock_19 : decode cX8_tryKnock 19 = .ok (.ifCond .ne 5, 3) := by decide +kernel
theorem dX8_tryKnock_22 : decode cX8_tryKnock 22 = .ok (.iconst (-1), 1) := by decide +kernel
theorem dX8_tryKnock_23 : decode cX8_tryKnock 23 = .ok (.ireturn, 1) := by decide +kernel
theorem dX8_tryKnock_24 : decode cX8_tryKnock 24 = .ok (.aload_n 0, 1) := by decide +kernel
theorem dX8_tryKnock_25 : decode cX8_tryKnock 25 = .ok (.getfield 18, 3) := by decide +kernel
theorem dX8_tryKnock_28 : decode cX8_tryKnock 28 = .ok (.iload_n 1, 1) := by decide +kernel
theorem dX8_tryKnock_29 : decode cX8_tryKnock 29 = .ok (.iaload, 1) := by decide +kernel
theorem dX8_tryKnock_30 : decode cX8_tryKnock 30 = .ok (.ifCond .eq 5, 3) := by decide +kernel
theorem dX8_tryKnock_33 : decode cX8_tryKnock 33 = .ok (.iconst 1, 1) := by decide +kernel
theorem dX8_tryKnock_34 : decode cX8_tryKnock 34 = .ok (.ireturn, 1) := by decide +kernel
theorem dX8_tryKnock_35 : decode cX8_tryKnock 35 = .ok (.aload_n 0, 1) := by decide +kernel
theorem dX8_tryKnock_36 : decode cX8_tryKnock 36 = .ok (.getfield 42, 3) := by decide +kernel
theorem dX8_tryKnock_39 : decode cX8_tryKnock 39 = .ok (.iload_n 2, 1) := by decide +kernel
theorem dX8_tryKnock_40 : decode cX8_tryKnock 40 = .ok (.invokevirtual 109, 3) := by decide +kernel
theorem dX8_tryKnock_43 : decode cX8_tryKnock 43 = .ok (.aload_n 0, 1) := by decide +kernel
theorem dX8_tryKnock_44 : decode cX8_tryKnock 44 = .ok (.getfield 21, 3) := by decide +kernel
theorem dX8_tryKnock_47 : decode cX8_tryKnock 47 = .ok (.iload_n 1, 1) := by decide +kernel
theorem dX8_tryKnock_48 : decode cX8_tryKnock 48 = .ok (.iaload, 1) := by decide +kernel
theorem dX8_tryKnock_49 : decode cX8_tryKnock 49 = .ok (.if_icmp .eq 5, 3) := by decide +kernel
theorem dX8_tryKnock_52 : decode cX8_tryKnock 52 = .ok (.iconst 2, 1) := by decide +kernel
theorem dX8_tryKnock_53 : decode cX8_tryKnock 53 = .ok (.ireturn, 1) := by decide +kernel
theorem dX8_tryKnock_54 : decode cX8_tryKnock 54 = .ok (.aload_n 0, 1) := by decide +kernel
theorem dX8_tryKnock_55 : decode cX8_tryKnock 55 = .ok (.getfield 42, 3) := by decide +kernel
theorem dX8_tryKnock_58 : decode cX8_tryKnock 58 = .ok (.iload_n 1, 1) := by decide +kernel
theorem dX8_tryKnock_59 : decode cX8_tryKnock 59 = .ok (.invokevirtual 68, 3) := by decide +kernel
theorem dX8_tryKnock_62 : decode cX8_tryKnock 62 = .ok (.iload_n 2, 1) := by decide +kernel
theorem dX8_tryKnock_63 : decode cX8_tryKnock 63 = .ok (.if_icmp .ne 5, 3) := by decide +kernel
theorem dX8_tryKnock_66 : decode cX8_tryKnock 66 = .ok (.iconst 3, 1) := by decide +kernel
theorem dX8_tryKnock_67 : decode cX8_tryKnock 67 = .ok (.ireturn, 1) := by decide +kernel
theorem dX8_tryKnock_68 : decode cX8_tryKnock 68 = .ok (.aload_n 0, 1) := by decide +kernel
theorem dX8_tryKnock_69 : decode cX8_tryKnock 69 = .ok (.getfield 18, 3) := by decide +kernel
theorem dX8_tryKnock_72 : decode cX8_tryKnock 72 = .ok (.iload_n 1, 1) := by decide +kernel
theorem dX8_tryKnock_73 : decode cX8_tryKnock 73 = .ok (.iconst 1, 1) := by decide +kernel
theorem dX8_tryKnock_74 : decode cX8_tryKnock 74 = .ok (.iastore, 1) := by decide +kernel
theorem dX8_tryKnock_75 : decode cX8_tryKnock 75 = .ok (.aload_n 0, 1) := by decide +kernel
theorem dX8_tryKnock_76 : decode cX8_tryKnock 76 = .ok (.getfield 27, 3) := by decide +kernel
theorem dX8_tryKnock_79 : decode cX8_tryKnock 79 = .ok (.iload_n 1, 1) := by decide +kernel
theorem dX8_tryKnock_80 : decode cX8_tryKnock 80 = .ok (.iload_n 2, 1) := by decide +kernel
theorem dX8_tryKnock_81 : decode cX8_tryKnock 81 = .ok (.iastore, 1) := by decide +kernel
theorem dX8_tryKnock_82 : decode cX8_tryKnock 82 = .ok (.iconst 0, 1) := by decide +kernel
theorem dX8_tryKnock_83 : decode cX8_tryKnock 83 = .ok (.ireturn, 1) := by decide +kernel
theorem dX8_tryGo_0 : decode cX8_tryGo 0 = .ok (.aload_n 0, 1) := by decide +kernel
theorem dX8_tryGo_1 : decode cX8_tryGo 1 = .ok (.getfield 42, 3) := by decide +kernel
theorem dX8_tryGo_4 : decode cX8_tryGo 4 = .ok (.iload_n 1, 1) := by decide +kernel
theorem dX8_tryGo_5 : decode cX8_tryGo 5 = .ok (.invokevirtual 62, 3) := by decide +kernel
theorem dX8_tryGo_8 : decode cX8_tryGo 8 = .ok (.ifCond .eq 12, 3) := by decide +kernel
theorem dX8_tryGo_11 : decode cX8_tryGo 11 = .ok (.iload_n 2, 1) := by decide +kernel
theorem dX8_tryGo_12 : decode cX8_tryGo 12 = .ok (.ifCond .lt 8, 3) := by decide +kernel
theorem dX8_tryGo_15 : decode cX8_tryGo 15 = .ok (.iload_n 2, 1) := by decide +kernel
theorem dX8_tryGo_16 : decode cX8_tryGo 16 = .ok (.iconst 3, 1) := by decide +kernel
theorem dX8_tryGo_17 : decode cX8_tryGo 17 = .ok (.if_icmp .lt 5, 3) := by decide +kernel
theorem dX8_tryGo_20 : decode cX8_tryGo 20 = .ok (.iconst (-1), 1) := by decide +kernel
theorem dX8_tryGo_21 : decode cX8_tryGo 21 = .ok (.ireturn, 1) := by decide +kernel
theorem dX8_tryGo_22 : decode cX8_tryGo 22 = .ok (.aload_n 0, 1) := by decide +kernel
theorem dX8_tryGo_23 : decode cX8_tryGo 23 = .ok (.getfield 18, 3) := by decide +kernel
theorem dX8_tryGo_26 : decode cX8_tryGo 26 = .ok (.iload_n 1, 1) := by decide +kernel
theorem dX8_tryGo_27 : decode cX8_tryGo 27 = .ok (.iaload, 1) := by decide +kernel
theorem dX8_tryGo_28 : decode cX8_tryGo 28 = .ok (.ifCond .eq 5, 3) := by decide +kernel
theorem dX8_tryGo_31 : decode cX8_tryGo 31 = .ok (.iconst 1, 1) := by decide +kernel
theorem dX8_tryGo_32 : decode cX8_tryGo 32 = .ok (.ireturn, 1) := by decide +kernel
theorem dX8_tryGo_33 : decode cX8_tryGo 33 = .ok (.aload_n 0, 1) := by decide +kernel
theorem dX8_tryGo_34 : decode cX8_tryGo 34 = .ok (.getfield 24, 3) := by decide +kernel
theorem dX8_tryGo_37 : decode cX8_tryGo 37 = .ok (.iload_n 1, 1) := by decide +kernel
theorem dX8_tryGo_38 : decode cX8_tryGo 38 = .ok (.iaload, 1) := by decide +kernel
theorem dX8_tryGo_39 : decode cX8_tryGo 39 = .ok (.iload_n 2, 1) := by decide +kernel
theorem dX8_tryGo_40 : decode cX8_tryGo 40 = .ok (.if_icmp .ne 5, 3) := by decide +kernel
theorem dX8_tryGo_43 : decode cX8_tryGo 43 = .ok (.iconst 2, 1) := by decide +kernel
theorem dX8_tryGo_44 : decode cX8_tryGo 44 = .ok (.ireturn, 1) := by decide +kernel
theorem dX8_tryGo_45 : decode cX8_tryGo 45 = .ok (.aload_n 0, 1) := by decide +kernel
theorem dX8_tryGo_46 : decode cX8_tryGo 46 = .ok (.getfield 24, 3) := by decide +kernel
theorem dX8_tryGo_49 : decode cX8_tryGo 49 = .ok (.iload_n 1, 1) := by decide +kernel
theorem dX8_tryGo_50 : decode cX8_tryGo 50 = .ok (.iload_n 2, 1) := by decide +kernel
theorem dX8_tryGo_51 : decode cX8_tryGo 51 = .ok (.iastore, 1) := by decide +kernel
theorem dX8_tryGo_52 : decode cX8_tryGo 52 = .ok (.iconst 0, 1) := by decide +kernel
theorem dX8_tryGo_53 : decode cX8_tryGo 53 = .ok (.ireturn, 1) := by decide +kernel
theorem dX8_tryQuit_0 : decode cX8_tryQuit 0 = .ok (.aload_n 0, 1) := by decide +kernel
theorem dX8_tryQuit_1 : decode cX8_tryQuit 1 = .ok (.getfield 42, 3) := by decide +kernel
theorem dX8_tryQuit_4 : decode cX8_tryQuit 4 = .ok (.iload_n 1, 1) := by decide +kernel
theorem dX8_tryQuit_5 : decode cX8_tryQuit 5 = .ok (.invokevirtual 62, 3) := by decide +kernel
theorem dX8_tryQuit_8 : decode cX8_tryQuit 8 = .ok (.ifCond .ne 5, 3) := by decide +kernel
theorem dX8_tryQuit_11 : decode cX8_tryQuit 11 = .ok (.iconst (-1), 1) := by decide +kernel
theorem dX8_tryQuit_12 : decode cX8_tryQuit 12 = .ok (.ireturn, 1) := by decide +kernel
theorem dX8_tryQuit_13 : decode cX8_tryQuit 13 = .ok (.aload_n 0, 1) := by decide +kernel
theorem dX8_tryQuit_14 : decode cX8_tryQuit 14 = .ok (.getfield 18, 3) := by decide +kernel
theorem dX8_tryQuit_17 : decode cX8_tryQuit 17 = .ok (.iload_n 1, 1) := by decide +kernel
theorem dX8_tryQuit_18 : decode cX8_tryQuit 18 = .ok (.iaload, 1) := by decide +kernel
theorem dX8_tryQuit_19 : decode cX8_tryQuit 19 = .ok (.iconst 1, 1) := by decide +kernel
theorem dX8_tryQuit_20 : decode cX8_tryQuit 20 = .ok (.if_icmp .eq 5, 3) := by decide +kernel
theorem dX8_tryQuit_23 : decode cX8_tryQuit 23 = .ok (.iconst 1, 1) := by decide +kernel
theorem dX8_tryQuit_24 : decode cX8_tryQuit 24 = .ok (.ireturn, 1) := by decide +kernel
theorem dX8_tryQuit_25 : decode cX8_tryQuit 25 = .ok (.aload_n 0, 1) := by decide +kernel
theorem dX8_tryQuit_26 : decode cX8_tryQuit 26 = .ok (.iload_n 1, 1) := by decide +kernel
theorem dX8_tryQuit_27 : decode cX8_tryQuit 27 = .ok (.invokevirtual 112, 3) := by decide +kernel
theorem dX8_tryQuit_30 : decode cX8_tryQuit 30 = .ok (.iconst 0, 1) := by decide +kernel
theorem dX8_tryQuit_31 : decode cX8_tryQuit 31 = .ok (.ireturn, 1) := by decide +kernel
theorem dX8_tryMeet_0 : decode cX8_tryMeet 0 = .ok (.iload_n 1, 1) := by decide +kernel
theorem dX8_tryMeet_1 : decode cX8_tryMeet 1 = .ok (.iload_n 2, 1) := by decide +kernel
theorem dX8_tryMeet_2 : decode cX8_tryMeet 2 = .ok (.if_icmp .eq 25, 3) := by decide +kernel
theorem dX8_tryMeet_5 : decode cX8_tryMeet 5 = .ok (.aload_n 0, 1) := by decide +kernel
theorem dX8_tryMeet_6 : decode cX8_tryMeet 6 = .ok (.getfield 42, 3) := by decide +kernel
theorem dX8_tryMeet_9 : decode cX8_tryMeet 9 = .ok (.iload_n 1, 1) := by decide +kernel
theorem dX8_tryMeet_10 : decode cX8_tryMeet 10 = .ok (.invokevirtual 62, 3) := by decide +kernel
theorem dX8_tryMeet_13 : decode cX8_tryMeet 13 = .ok (.ifCond .eq 14, 3) := by decide +kernel
theorem dX8_tryMeet_16 : decode cX8_tryMeet 16 = .ok (.aload_n 0, 1) := by decide +kernel
theorem dX8_tryMeet_17 : decode cX8_tryMeet 17 = .ok (.getfield 42, 3) := by decide +kernel
theorem dX8_tryMeet_20 : decode cX8_tryMeet 20 = .ok (.iload_n 2, 1) := by decide +kernel
theorem dX8_tryMeet_21 : decode cX8_tryMeet 21 = .ok (.invokevirtual 62, 3) := by decide +kernel
theorem dX8_tryMeet_24 : decode cX8_tryMeet 24 = .ok (.ifCond .ne 5, 3) := by decide +kernel
theorem dX8_tryMeet_27 : decode cX8_tryMeet 27 = .ok (.iconst (-1), 1) := by decide +kernel
theorem dX8_tryMeet_28 : decode cX8_tryMeet 28 = .ok (.ireturn, 1) := by decide +kernel
theorem dX8_tryMeet_29 : decode cX8_tryMeet 29 = .ok (.aload_n 0, 1) := by decide +kernel
theorem dX8_tryMeet_30 : decode cX8_tryMeet 30 = .ok (.iload_n 1, 1) := by decide +kernel
theorem dX8_tryMeet_31 : decode cX8_tryMeet 31 = .ok (.iload_n 2, 1) := by decide +kernel
theorem dX8_tryMeet_32 : decode cX8_tryMeet 32 = .ok (.invokevirtual 116, 3) := by decide +kernel
theorem dX8_tryMeet_35 : decode cX8_tryMeet 35 = .ok (.ifCond .eq 5, 3) := by decide +kernel
theorem dX8_tryMeet_38 : decode cX8_tryMeet 38 = .ok (.iconst 1, 1) := by decide +kernel
theorem dX8_tryMeet_39 : decode cX8_tryMeet 39 = .ok (.ireturn, 1) := by decide +kernel
theorem dX8_tryMeet_40 : decode cX8_tryMeet 40 = .ok (.aload_n 0, 1) := by decide +kernel
theorem dX8_tryMeet_41 : decode cX8_tryMeet 41 = .ok (.iload_n 1, 1) := by decide +kernel
theorem dX8_tryMeet_42 : decode cX8_tryMeet 42 = .ok (.iconst 1, 1) := by decide +kernel
theorem dX8_tryMeet_43 : decode cX8_tryMeet 43 = .ok (.iload_n 2, 1) := by decide +kernel
theorem dX8_tryMeet_44 : decode cX8_tryMeet 44 = .ok (.ishl, 1) := by decide +kernel
theorem dX8_tryMeet_45 : decode cX8_tryMeet 45 = .ok (.invokevirtual 75, 3) := by decide +kernel
theorem dX8_tryMeet_48 : decode cX8_tryMeet 48 = .ok (.iconst 0, 1) := by decide +kernel
theorem dX8_tryMeet_49 : decode cX8_tryMeet 49 = .ok (.ireturn, 1) := by decide +kernel
theorem dX8_tryCall_0 : decode cX8_tryCall 0 = .ok (.aload_n 0, 1) := by decide +kernel
theorem dX8_tryCall_1 : decode cX8_tryCall 1 = .ok (.getfield 42, 3) := by decide +kernel
theorem dX8_tryCall_4 : decode cX8_tryCall 4 = .ok (.iload_n 1, 1) := by decide +kernel
theorem dX8_tryCall_5 : decode cX8_tryCall 5 = .ok (.invokevirtual 62, 3) := by decide +kernel
theorem dX8_tryCall_8 : decode cX8_tryCall 8 = .ok (.ifCond .eq 14, 3) := by decide +kernel
theorem dX8_tryCall_11 : decode cX8_tryCall 11 = .ok (.aload_n 0, 1) := by decide +kernel
theorem dX8_tryCall_12 : decode cX8_tryCall 12 = .ok (.getfield 42, 3) := by decide +kernel
theorem dX8_tryCall_15 : decode cX8_tryCall 15 = .ok (.iload_n 2, 1) := by decide +kernel
theorem dX8_tryCall_16 : decode cX8_tryCall 16 = .ok (.invokevirtual 106, 3) := by decide +kernel
theorem dX8_tryCall_19 : decode cX8_tryCall 19 = .ok (.ifCond .ne 5, 3) := by decide +kernel
theorem dX8_tryCall_22 : decode cX8_tryCall 22 = .ok (.iconst (-1), 1) := by decide +kernel
theorem dX8_tryCall_23 : decode cX8_tryCall 23 = .ok (.ireturn, 1) := by decide +kernel
theorem dX8_tryCall_24 : decode cX8_tryCall 24 = .ok (.aload_n 0, 1) := by decide +kernel
theorem dX8_tryCall_25 : decode cX8_tryCall 25 = .ok (.getfield 42, 3) := by decide +kernel
theorem dX8_tryCall_28 : decode cX8_tryCall 28 = .ok (.iload_n 1, 1) := by decide +kernel
theorem dX8_tryCall_29 : decode cX8_tryCall 29 = .ok (.invokevirtual 68, 3) := by decide +kernel
theorem dX8_tryCall_32 : decode cX8_tryCall 32 = .ok (.iload_n 2, 1) := by decide +kernel
theorem dX8_tryCall_33 : decode cX8_tryCall 33 = .ok (.if_icmp .ne 5, 3) := by decide +kernel
theorem dX8_tryCall_36 : decode cX8_tryCall 36 = .ok (.iconst 1, 1) := by decide +kernel
theorem dX8_tryCall_37 : decode cX8_tryCall 37 = .ok (.ireturn, 1) := by decide +kernel
theorem dX8_tryCall_38 : decode cX8_tryCall 38 = .ok (.aload_n 0, 1) := by decide +kernel
theorem dX8_tryCall_39 : decode cX8_tryCall 39 = .ok (.iload_n 1, 1) := by decide +kernel
theorem dX8_tryCall_40 : decode cX8_tryCall 40 = .ok (.invokevirtual 79, 3) := by decide +kernel
theorem dX8_tryCall_43 : decode cX8_tryCall 43 = .ok (.iload_n 2, 1) := by decide +kernel
theorem dX8_tryCall_44 : decode cX8_tryCall 44 = .ok (.invokestatic 88, 3) := by decide +kernel
theorem dX8_tryCall_47 : decode cX8_tryCall 47 = .ok (.ifCond .eq 5, 3) := by decide +kernel
theorem dX8_tryCall_50 : decode cX8_tryCall 50 = .ok (.iconst 2, 1) := by decide +kernel
theorem dX8_tryCall_51 : decode cX8_tryCall 51 = .ok (.ireturn, 1) := by decide +kernel
theorem dX8_tryCall_52 : decode cX8_tryCall 52 = .ok (.aload_n 0, 1) := by decide +kernel
theorem dX8_tryCall_53 : decode cX8_tryCall 53 = .ok (.getfield 53, 3) := by decide +kernel
theorem dX8_tryCall_56 : decode cX8_tryCall 56 = .ok (.ifCond .lt 12, 3) := by decide +kernel
theorem dX8_tryCall_59 : decode cX8_tryCall 59 = .ok (.aload_n 0, 1) := by decide +kernel
theorem dX8_tryCall_60 : decode cX8_tryCall 60 = .ok (.getfield 53, 3) := by decide +kernel
theorem dX8_tryCall_63 : decode cX8_tryCall 63 = .ok (.bipush 12, 2) := by decide +kernel
theorem dX8_tryCall_65 : decode cX8_tryCall 65 = .ok (.if_icmp .lt 5, 3) := by decide +kernel
theorem dX8_tryCall_68 : decode cX8_tryCall 68 = .ok (.iconst 3, 1) := by decide +kernel
theorem dX8_tryCall_69 : decode cX8_tryCall 69 = .ok (.ireturn, 1) := by decide +kernel
theorem dX8_tryCall_70 : decode cX8_tryCall 70 = .ok (.aload_n 0, 1) := by decide +kernel
theorem dX8_tryCall_71 : decode cX8_tryCall 71 = .ok (.getfield 9, 3) := by decide +kernel
theorem dX8_tryCall_74 : decode cX8_tryCall 74 = .ok (.aload_n 0, 1) := by decide +kernel
theorem dX8_tryCall_75 : decode cX8_tryCall 75 = .ok (.getfield 53, 3) := by decide +kernel
theorem dX8_tryCall_78 : decode cX8_tryCall 78 = .ok (.iload_n 1, 1) := by decide +kernel
theorem dX8_tryCall_79 : decode cX8_tryCall 79 = .ok (.iastore, 1) := by decide +kernel
theorem dX8_tryCall_80 : decode cX8_tryCall 80 = .ok (.aload_n 0, 1) := by decide +kernel
theorem dX8_tryCall_81 : decode cX8_tryCall 81 = .ok (.getfield 15, 3) := by decide +kernel
theorem dX8_tryCall_84 : decode cX8_tryCall 84 = .ok (.aload_n 0, 1) := by decide +kernel
theorem dX8_tryCall_85 : decode cX8_tryCall 85 = .ok (.getfield 53, 3) := by decide +kernel
theorem dX8_tryCall_88 : decode cX8_tryCall 88 = .ok (.iload_n 2, 1) := by decide +kernel
theorem dX8_tryCall_89 : decode cX8_tryCall 89 = .ok (.iastore, 1) := by decide +kernel
theorem dX8_tryCall_90 : decode cX8_tryCall 90 = .ok (.aload_n 0, 1) := by decide +kernel
theorem dX8_tryCall_91 : decode cX8_tryCall 91 = .ok (.dup, 1) := by decide +kernel
theorem dX8_tryCall_92 : decode cX8_tryCall 92 = .ok (.getfield 53, 3) := by decide +kernel
theorem dX8_tryCall_95 : decode cX8_tryCall 95 = .ok (.iconst 1, 1) := by decide +kernel
theorem dX8_tryCall_96 : decode cX8_tryCall 96 = .ok (.iadd, 1) := by decide +kernel
theorem dX8_tryCall_97 : decode cX8_tryCall 97 = .ok (.putfield 53, 3) := by decide +kernel
theorem dX8_tryCall_100 : decode cX8_tryCall 100 = .ok (.iconst 0, 1) := by decide +kernel
theorem dX8_tryCall_101 : decode cX8_tryCall 101 = .ok (.ireturn, 1) := by decide +kernel
theorem dX8_putInLane_0 : decode cX8_putInLane 0 = .ok (.aload_n 0, 1) := by decide +kernel
theorem dX8_putInLane_1 : decode cX8_putInLane 1 = .ok (.getfield 42, 3) := by decide +kernel
theorem dX8_putInLane_4 : decode cX8_putInLane 4 = .ok (.iload_n 1, 1) := by decide +kernel
theorem dX8_putInLane_5 : decode cX8_putInLane 5 = .ok (.invokevirtual 62, 3) := by decide +kernel
theorem dX8_putInLane_8 : decode cX8_putInLane 8 = .ok (.ifCond .eq 24, 3) := by decide +kernel
theorem dX8_putInLane_11 : decode cX8_putInLane 11 = .ok (.aload_n 0, 1) := by decide +kernel
theorem dX8_putInLane_12 : decode cX8_putInLane 12 = .ok (.getfield 18, 3) := by decide +kernel
theorem dX8_putInLane_15 : decode cX8_putInLane 15 = .ok (.iload_n 1, 1) := by decide +kernel
theorem dX8_putInLane_16 : decode cX8_putInLane 16 = .ok (.iconst 0, 1) := by decide +kernel
theorem dX8_putInLane_17 : decode cX8_putInLane 17 = .ok (.iastore, 1) := by decide +kernel
theorem dX8_putInLane_18 : decode cX8_putInLane 18 = .ok (.aload_n 0, 1) := by decide +kernel
theorem dX8_putInLane_19 : decode cX8_putInLane 19 = .ok (.getfield 27, 3) := by decide +kernel
theorem dX8_putInLane_22 : decode cX8_putInLane 22 = .ok (.iload_n 1, 1) := by decide +kernel
theorem dX8_putInLane_23 : decode cX8_putInLane 23 = .ok (.iconst (-1), 1) := by decide +kernel
theorem dX8_putInLane_24 : decode cX8_putInLane 24 = .ok (.iastore, 1) := by decide +kernel
theorem dX8_putInLane_25 : decode cX8_putInLane 25 = .ok (.aload_n 0, 1) := by decide +kernel
theorem dX8_putInLane_26 : decode cX8_putInLane 26 = .ok (.getfield 30, 3) := by decide +kernel
theorem dX8_putInLane_29 : decode cX8_putInLane 29 = .ok (.iload_n 1, 1) := by decide +kernel
theorem dX8_putInLane_30 : decode cX8_putInLane 30 = .ok (.iconst 0, 1) := by decide +kernel
theorem dX8_putInLane_31 : decode cX8_putInLane 31 = .ok (.iastore, 1) := by decide +kernel
theorem dX8_putInLane_32 : decode cX8_putInLane 32 = .ok (.return_, 1) := by decide +kernel
theorem dX8_makeKnown_0 : decode cX8_makeKnown 0 = .ok (.aload_n 0, 1) := by decide +kernel
theorem dX8_makeKnown_1 : decode cX8_makeKnown 1 = .ok (.getfield 42, 3) := by decide +kernel
theorem dX8_makeKnown_4 : decode cX8_makeKnown 4 = .ok (.iload_n 1, 1) := by decide +kernel
theorem dX8_makeKnown_5 : decode cX8_makeKnown 5 = .ok (.invokevirtual 62, 3) := by decide +kernel
theorem dX8_makeKnown_8 : decode cX8_makeKnown 8 = .ok (.ifCond .ne 4, 3) := by decide +kernel
theorem dX8_makeKnown_11 : decode cX8_makeKnown 11 = .ok (.return_, 1) := by decide +kernel
theorem dX8_makeKnown_12 : decode cX8_makeKnown 12 = .ok (.aload_n 0, 1) := by decide +kernel
theorem dX8_makeKnown_13 : decode cX8_makeKnown 13 = .ok (.getfield 33, 3) := by decide +kernel
theorem dX8_makeKnown_16 : decode cX8_makeKnown 16 = .ok (.iload_n 1, 1) := by decide +kernel
theorem dX8_makeKnown_17 : decode cX8_makeKnown 17 = .ok (.dup2, 1) := by decide +kernel
theorem dX8_makeKnown_18 : decode cX8_makeKnown 18 = .ok (.iaload, 1) := by decide +kernel
theorem dX8_makeKnown_19 : decode cX8_makeKnown 19 = .ok (.iload_n 2, 1) := by decide +kernel
theorem dX8_makeKnown_20 : decode cX8_makeKnown 20 = .ok (.ior, 1) := by decide +kernel
theorem dX8_makeKnown_21 : decode cX8_makeKnown 21 = .ok (.iastore, 1) := by decide +kernel
theorem dX8_makeKnown_22 : decode cX8_makeKnown 22 = .ok (.iconst 0, 1) := by decide +kernel
theorem dX8_makeKnown_23 : decode cX8_makeKnown 23 = .ok (.istore_n 3, 1) := by decide +kernel
theorem dX8_makeKnown_24 : decode cX8_makeKnown 24 = .ok (.iload_n 3, 1) := by decide +kernel
theorem dX8_makeKnown_25 : decode cX8_makeKnown 25 = .ok (.bipush 8, 2) := by decide +kernel
theorem dX8_makeKnown_27 : decode cX8_makeKnown 27 = .ok (.if_icmp .ge 40, 3) := by decide +kernel
theorem dX8_makeKnown_30 : decode cX8_makeKnown 30 = .ok (.iload_n 3, 1) := by decide +kernel
theorem dX8_makeKnown_31 : decode cX8_makeKnown 31 = .ok (.aload_n 0, 1) := by decide +kernel
theorem dX8_makeKnown_32 : decode cX8_makeKnown 32 = .ok (.getfield 42, 3) := by decide +kernel
theorem dX8_makeKnown_35 : decode cX8_makeKnown 35 = .ok (.getfield 92, 3) := by decide +kernel
theorem dX8_makeKnown_38 : decode cX8_makeKnown 38 = .ok (.if_icmp .ge 29, 3) := by decide +kernel
theorem dX8_makeKnown_41 : decode cX8_makeKnown 41 = .ok (.iload_n 2, 1) := by decide +kernel
theorem dX8_makeKnown_42 : decode cX8_makeKnown 42 = .ok (.iload_n 3, 1) := by decide +kernel
theorem dX8_makeKnown_43 : decode cX8_makeKnown 43 = .ok (.invokestatic 88, 3) := by decide +kernel
theorem dX8_makeKnown_46 : decode cX8_makeKnown 46 = .ok (.ifCond .eq 15, 3) := by decide +kernel
theorem dX8_makeKnown_49 : decode cX8_makeKnown 49 = .ok (.aload_n 0, 1) := by decide +kernel
theorem dX8_makeKnown_50 : decode cX8_makeKnown 50 = .ok (.getfield 33, 3) := by decide +kernel
theorem dX8_makeKnown_53 : decode cX8_makeKnown 53 = .ok (.iload_n 3, 1) := by decide +kernel
theorem dX8_makeKnown_54 : decode cX8_makeKnown 54 = .ok (.dup2, 1) := by decide +kernel
theorem dX8_makeKnown_55 : decode cX8_makeKnown 55 = .ok (.iaload, 1) := by decide +kernel
theorem dX8_makeKnown_56 : decode cX8_makeKnown 56 = .ok (.iconst 1, 1) := by decide +kernel
theorem dX8_makeKnown_57 : decode cX8_makeKnown 57 = .ok (.iload_n 1, 1) := by decide +kernel
theorem dX8_makeKnown_58 : decode cX8_makeKnown 58 = .ok (.ishl, 1) := by decide +kernel
theorem dX8_makeKnown_59 : decode cX8_makeKnown 59 = .ok (.ior, 1) := by decide +kernel
theorem dX8_makeKnown_60 : decode cX8_makeKnown 60 = .ok (.iastore, 1) := by decide +kernel
theorem dX8_makeKnown_61 : decode cX8_makeKnown 61 = .ok (.iinc 3 1, 3) := by decide +kernel
theorem dX8_makeKnown_64 : decode cX8_makeKnown 64 = .ok (.goto (-40), 3) := by decide +kernel
theorem dX8_makeKnown_67 : decode cX8_makeKnown 67 = .ok (.return_, 1) := by decide +kernel
theorem dX8_letTicksGo_0 : decode cX8_letTicksGo 0 = .ok (.iconst 0, 1) := by decide +kernel
theorem dX8_letTicksGo_1 : decode cX8_letTicksGo 1 = .ok (.istore_n 2, 1) := by decide +kernel
theorem dX8_letTicksGo_2 : decode cX8_letTicksGo 2 = .ok (.iload_n 2, 1) := by decide +kernel
theorem dX8_letTicksGo_3 : decode cX8_letTicksGo 3 = .ok (.iload_n 1, 1) := by decide +kernel
theorem dX8_letTicksGo_4 : decode cX8_letTicksGo 4 = .ok (.if_icmp .ge 23, 3) := by decide +kernel
theorem dX8_letTicksGo_7 : decode cX8_letTicksGo 7 = .ok (.aload_n 0, 1) := by decide +kernel
theorem dX8_letTicksGo_8 : decode cX8_letTicksGo 8 = .ok (.getfield 46, 3) := by decide +kernel
theorem dX8_letTicksGo_11 : decode cX8_letTicksGo 11 = .ok (.sipush 1000, 3) := by decide +kernel
theorem dX8_letTicksGo_14 : decode cX8_letTicksGo 14 = .ok (.if_icmp .ge 13, 3) := by decide +kernel
theorem dX8_letTicksGo_17 : decode cX8_letTicksGo 17 = .ok (.aload_n 0, 1) := by decide +kernel
theorem dX8_letTicksGo_18 : decode cX8_letTicksGo 18 = .ok (.invokevirtual 119, 3) := by decide +kernel
theorem dX8_letTicksGo_21 : decode cX8_letTicksGo 21 = .ok (.iinc 2 1, 3) := by decide +kernel
theorem dX8_letTicksGo_24 : decode cX8_letTicksGo 24 = .ok (.goto (-22), 3) := by decide +kernel
theorem dX8_letTicksGo_27 : decode cX8_letTicksGo 27 = .ok (.iload_n 2, 1) := by decide +kernel
theorem dX8_letTicksGo_28 : decode cX8_letTicksGo 28 = .ok (.ireturn, 1) := by decide +kernel
theorem dX8_letDrawnTicksGo_0 : decode cX8_letDrawnTicksGo 0 = .ok (.aload_n 0, 1) := by decide +kernel
theorem dX8_letDrawnTicksGo_1 : decode cX8_letDrawnTicksGo 1 = .ok (.iload_n 2, 1) := by decide +kernel
theorem dX8_letDrawnTicksGo_2 : decode cX8_letDrawnTicksGo 2 = .ok (.putfield 122, 3) := by decide +kernel
theorem dX8_letDrawnTicksGo_5 : decode cX8_letDrawnTicksGo 5 = .ok (.iconst 0, 1) := by decide +kernel
theorem dX8_letDrawnTicksGo_6 : decode cX8_letDrawnTicksGo 6 = .ok (.istore_n 3, 1) := by decide +kernel
theorem dX8_letDrawnTicksGo_7 : decode cX8_letDrawnTicksGo 7 = .ok (.iload_n 3, 1) := by decide +kernel
theorem dX8_letDrawnTicksGo_8 : decode cX8_letDrawnTicksGo 8 = .ok (.iload_n 1, 1) := by decide +kernel
theorem dX8_letDrawnTicksGo_9 : decode cX8_letDrawnTicksGo 9 = .ok (.if_icmp .ge 50, 3) := by decide +kernel
theorem dX8_letDrawnTicksGo_12 : decode cX8_letDrawnTicksGo 12 = .ok (.aload_n 0, 1) := by decide +kernel
theorem dX8_letDrawnTicksGo_13 : decode cX8_letDrawnTicksGo 13 = .ok (.getfield 46, 3) := by decide +kernel
theorem dX8_letDrawnTicksGo_16 : decode cX8_letDrawnTicksGo 16 = .ok (.sipush 1000, 3) := by decide +kernel
theorem dX8_letDrawnTicksGo_19 : decode cX8_letDrawnTicksGo 19 = .ok (.if_icmp .ge 40, 3) := by decide +kernel
theorem dX8_letDrawnTicksGo_22 : decode cX8_letDrawnTicksGo 22 = .ok (.iconst 0, 1) := by decide +kernel
theorem dX8_letDrawnTicksGo_23 : decode cX8_letDrawnTicksGo 23 = .ok (.istore 4, 2) := by decide +kernel
theorem dX8_letDrawnTicksGo_25 : decode cX8_letDrawnTicksGo 25 = .ok (.iload 4, 2) := by decide +kernel
theorem dX8_letDrawnTicksGo_27 : decode cX8_letDrawnTicksGo 27 = .ok (.aload_n 0, 1) := by decide +kernel
theorem dX8_letDrawnTicksGo_28 : decode cX8_letDrawnTicksGo 28 = .ok (.getfield 42, 3) := by decide +kernel
theorem dX8_letDrawnTicksGo_31 : decode cX8_letDrawnTicksGo 31 = .ok (.getfield 92, 3) := by decide +kernel
theorem dX8_letDrawnTicksGo_34 : decode cX8_letDrawnTicksGo 34 = .ok (.if_icmp .ge 15, 3) := by decide +kernel
theorem dX8_letDrawnTicksGo_37 : decode cX8_letDrawnTicksGo 37 = .ok (.aload_n 0, 1) := by decide +kernel
theorem dX8_letDrawnTicksGo_38 : decode cX8_letDrawnTicksGo 38 = .ok (.iload 4, 2) := by decide +kernel
theorem dX8_letDrawnTicksGo_40 : decode cX8_letDrawnTicksGo 40 = .ok (.invokevirtual 125, 3) := by decide +kernel
theorem dX8_letDrawnTicksGo_43 : decode cX8_letDrawnTicksGo 43 = .ok (.iinc 4 1, 3) := by decide +kernel
theorem dX8_letDrawnTicksGo_46 : decode cX8_letDrawnTicksGo 46 = .ok (.goto (-21), 3) := by decide +kernel
theorem dX8_letDrawnTicksGo_49 : decode cX8_letDrawnTicksGo 49 = .ok (.aload_n 0, 1) := by decide +kernel
theorem dX8_letDrawnTicksGo_50 : decode cX8_letDrawnTicksGo 50 = .ok (.invokevirtual 119, 3) := by decide +kernel
theorem dX8_letDrawnTicksGo_53 : decode cX8_letDrawnTicksGo 53 = .ok (.iinc 3 1, 3) := by decide +kernel
theorem dX8_letDrawnTicksGo_56 : decode cX8_letDrawnTicksGo 56 = .ok (.goto (-49), 3) := by decide +kernel
theorem dX8_letDrawnTicksGo_59 : decode cX8_letDrawnTicksGo 59 = .ok (.iload_n 3, 1) := by decide +kernel
theorem dX8_letDrawnTicksGo_60 : decode cX8_letDrawnTicksGo 60 = .ok (.ireturn, 1) := by decide +kernel
theorem dX8_actByDraw_0 : decode cX8_actByDraw 0 = .ok (.aload_n 0, 1) := by decide +kernel
theorem dX8_actByDraw_1 : decode cX8_actByDraw 1 = .ok (.bipush 8, 2) := by decide +kernel
theorem dX8_actByDraw_3 : decode cX8_actByDraw 3 = .ok (.invokevirtual 128, 3) := by decide +kernel
theorem dX8_actByDraw_6 : decode cX8_actByDraw 6 = .ok (.tableswitch 113 0 3 #[30, 60, 74, 104], 30) := by decide +kernel
theorem dX8_actByDraw_36 : decode cX8_actByDraw 36 = .ok (.aload_n 0, 1) := by decide +kernel
theorem dX8_actByDraw_37 : decode cX8_actByDraw 37 = .ok (.getfield 42, 3) := by decide +kernel
theorem dX8_actByDraw_40 : decode cX8_actByDraw 40 = .ok (.getfield 95, 3) := by decide +kernel
theorem dX8_actByDraw_43 : decode cX8_actByDraw 43 = .ok (.ifCond .le 76, 3) := by decide +kernel
theorem dX8_actByDraw_46 : decode cX8_actByDraw 46 = .ok (.aload_n 0, 1) := by decide +kernel
theorem dX8_actByDraw_47 : decode cX8_actByDraw 47 = .ok (.iload_n 1, 1) := by decide +kernel
theorem dX8_actByDraw_48 : decode cX8_actByDraw 48 = .ok (.aload_n 0, 1) := by decide +kernel
theorem dX8_actByDraw_49 : decode cX8_actByDraw 49 = .ok (.aload_n 0, 1) := by decide +kernel
theorem dX8_actByDraw_50 : decode cX8_actByDraw 50 = .ok (.getfield 42, 3) := by decide +kernel
theorem dX8_actByDraw_53 : decode cX8_actByDraw 53 = .ok (.getfield 95, 3) := by decide +kernel
theorem dX8_actByDraw_56 : decode cX8_actByDraw 56 = .ok (.invokevirtual 128, 3) := by decide +kernel
theorem dX8_actByDraw_59 : decode cX8_actByDraw 59 = .ok (.invokevirtual 131, 3) := by decide +kernel
theorem dX8_actByDraw_62 : decode cX8_actByDraw 62 = .ok (.pop, 1) := by decide +kernel
theorem dX8_actByDraw_63 : decode cX8_actByDraw 63 = .ok (.goto 56, 3) := by decide +kernel
theorem dX8_actByDraw_66 : decode cX8_actByDraw 66 = .ok (.aload_n 0, 1) := by decide +kernel
theorem dX8_actByDraw_67 : decode cX8_actByDraw 67 = .ok (.iload_n 1, 1) := by decide +kernel
theorem dX8_actByDraw_68 : decode cX8_actByDraw 68 = .ok (.aload_n 0, 1) := by decide +kernel
theorem dX8_actByDraw_69 : decode cX8_actByDraw 69 = .ok (.iconst 3, 1) := by decide +kernel
theorem dX8_actByDraw_70 : decode cX8_actByDraw 70 = .ok (.invokevirtual 128, 3) := by decide +kernel
theorem dX8_actByDraw_73 : decode cX8_actByDraw 73 = .ok (.invokevirtual 135, 3) := by decide +kernel
theorem dX8_actByDraw_76 : decode cX8_actByDraw 76 = .ok (.pop, 1) := by decide +kernel
theorem dX8_actByDraw_77 : decode cX8_actByDraw 77 = .ok (.goto 42, 3) := by decide +kernel
theorem dX8_actByDraw_80 : decode cX8_actByDraw 80 = .ok (.aload_n 0, 1) := by decide +kernel
theorem dX8_actByDraw_81 : decode cX8_actByDraw 81 = .ok (.getfield 42, 3) := by decide +kernel
theorem dX8_actByDraw_84 : decode cX8_actByDraw 84 = .ok (.getfield 95, 3) := by decide +kernel
theorem dX8_actByDraw_87 : decode cX8_actByDraw 87 = .ok (.ifCond .le 32, 3) := by decide +kernel
theorem dX8_actByDraw_90 : decode cX8_actByDraw 90 = .ok (.aload_n 0, 1) := by decide +kernel
theorem dX8_actByDraw_91 : decode cX8_actByDraw 91 = .ok (.iload_n 1, 1) := by decide +kernel
theorem dX8_actByDraw_92 : decode cX8_actByDraw 92 = .ok (.aload_n 0, 1) := by decide +kernel
theorem dX8_actByDraw_93 : decode cX8_actByDraw 93 = .ok (.aload_n 0, 1) := by decide +kernel
theorem dX8_actByDraw_94 : decode cX8_actByDraw 94 = .ok (.getfield 42, 3) := by decide +kernel
theorem dX8_actByDraw_97 : decode cX8_actByDraw 97 = .ok (.getfield 95, 3) := by decide +kernel
theorem dX8_actByDraw_100 : decode cX8_actByDraw 100 = .ok (.invokevirtual 128, 3) := by decide +kernel
theorem dX8_actByDraw_103 : decode cX8_actByDraw 103 = .ok (.invokevirtual 138, 3) := by decide +kernel
theorem dX8_actByDraw_106 : decode cX8_actByDraw 106 = .ok (.pop, 1) := by decide +kernel
theorem dX8_actByDraw_107 : decode cX8_actByDraw 107 = .ok (.goto 12, 3) := by decide +kernel
theorem dX8_actByDraw_110 : decode cX8_actByDraw 110 = .ok (.aload_n 0, 1) := by decide +kernel
theorem dX8_actByDraw_111 : decode cX8_actByDraw 111 = .ok (.iload_n 1, 1) := by decide +kernel
theorem dX8_actByDraw_112 : decode cX8_actByDraw 112 = .ok (.invokevirtual 141, 3) := by decide +kernel
theorem dX8_actByDraw_115 : decode cX8_actByDraw 115 = .ok (.pop, 1) := by decide +kernel
theorem dX8_actByDraw_116 : decode cX8_actByDraw 116 = .ok (.goto 3, 3) := by decide +kernel
theorem dX8_actByDraw_119 : decode cX8_actByDraw 119 = .ok (.return_, 1) := by decide +kernel
theorem dX8_draw_0 : decode cX8_draw 0 = .ok (.aload_n 0, 1) := by decide +kernel
theorem dX8_draw_1 : decode cX8_draw 1 = .ok (.aload_n 0, 1) := by decide +kernel
theorem dX8_draw_2 : decode cX8_draw 2 = .ok (.getfield 122, 3) := by decide +kernel
theorem dX8_draw_5 : decode cX8_draw 5 = .ok (.ldc 144, 2) := by decide +kernel
theorem dX8_draw_7 : decode cX8_draw 7 = .ok (.imul, 1) := by decide +kernel
theorem dX8_draw_8 : decode cX8_draw 8 = .ok (.sipush 12345, 3) := by decide +kernel
theorem dX8_draw_11 : decode cX8_draw 11 = .ok (.iadd, 1) := by decide +kernel
theorem dX8_draw_12 : decode cX8_draw 12 = .ok (.putfield 122, 3) := by decide +kernel
theorem dX8_draw_15 : decode cX8_draw 15 = .ok (.iload_n 1, 1) := by decide +kernel
theorem dX8_draw_16 : decode cX8_draw 16 = .ok (.ifCond .le 15, 3) := by decide +kernel
theorem dX8_draw_19 : decode cX8_draw 19 = .ok (.aload_n 0, 1) := by decide +kernel
theorem dX8_draw_20 : decode cX8_draw 20 = .ok (.getfield 122, 3) := by decide +kernel
theorem dX8_draw_23 : decode cX8_draw 23 = .ok (.bipush 8, 2) := by decide +kernel
theorem dX8_draw_25 : decode cX8_draw 25 = .ok (.iushr, 1) := by decide +kernel
theorem dX8_draw_26 : decode cX8_draw 26 = .ok (.iload_n 1, 1) := by decide +kernel
theorem dX8_draw_27 : decode cX8_draw 27 = .ok (.irem, 1) := by decide +kernel
theorem dX8_draw_28 : decode cX8_draw 28 = .ok (.goto 4, 3) := by decide +kernel
theorem dX8_draw_31 : decode cX8_draw 31 = .ok (.iconst 0, 1) := by decide +kernel
theorem dX8_draw_32 : decode cX8_draw 32 = .ok (.ireturn, 1) := by decide +kernel
theorem dX8_letTickGo_0 : decode cX8_letTickGo 0 = .ok (.bipush 8, 2) := by decide +kernel
theorem dX8_letTickGo_2 : decode cX8_letTickGo 2 = .ok (.aload_n 0, 1) := by decide +kernel
theorem dX8_letTickGo_3 : decode cX8_letTickGo 3 = .ok (.getfield 42, 3) := by decide +kernel
theorem dX8_letTickGo_6 : decode cX8_letTickGo 6 = .ok (.getfield 92, 3) := by decide +kernel
theorem dX8_letTickGo_9 : decode cX8_letTickGo 9 = .ok (.invokestatic 145, 3) := by decide +kernel
theorem dX8_letTickGo_12 : decode cX8_letTickGo 12 = .ok (.istore_n 1, 1) := by decide +kernel
theorem dX8_letTickGo_13 : decode cX8_letTickGo 13 = .ok (.iconst 0, 1) := by decide +kernel
theorem dX8_letTickGo_14 : decode cX8_letTickGo 14 = .ok (.istore_n 2, 1) := by decide +kernel
theorem dX8_letTickGo_15 : decode cX8_letTickGo 15 = .ok (.iload_n 2, 1) := by decide +kernel
theorem dX8_letTickGo_16 : decode cX8_letTickGo 16 = .ok (.iload_n 1, 1) := by decide +kernel
theorem dX8_letTickGo_17 : decode cX8_letTickGo 17 = .ok (.if_icmp .ge 24, 3) := by decide +kernel
theorem dX8_letTickGo_20 : decode cX8_letTickGo 20 = .ok (.aload_n 0, 1) := by decide +kernel
theorem dX8_letTickGo_21 : decode cX8_letTickGo 21 = .ok (.getfield 18, 3) := by decide +kernel
theorem dX8_letTickGo_24 : decode cX8_letTickGo 24 = .ok (.iload_n 2, 1) := by decide +kernel
theorem dX8_letTickGo_25 : decode cX8_letTickGo 25 = .ok (.iaload, 1) := by decide +kernel
theorem dX8_letTickGo_26 : decode cX8_letTickGo 26 = .ok (.iconst 2, 1) := by decide +kernel
theorem dX8_letTickGo_27 : decode cX8_letTickGo 27 = .ok (.if_icmp .ne 8, 3) := by decide +kernel
theorem dX8_letTickGo_30 : decode cX8_letTickGo 30 = .ok (.aload_n 0, 1) := by decide +kernel
theorem dX8_letTickGo_31 : decode cX8_letTickGo 31 = .ok (.iload_n 2, 1) := by decide +kernel
theorem dX8_letTickGo_32 : decode cX8_letTickGo 32 = .ok (.invokevirtual 150, 3) := by decide +kernel
theorem dX8_letTickGo_35 : decode cX8_letTickGo 35 = .ok (.iinc 2 1, 3) := by decide +kernel
theorem dX8_letTickGo_38 : decode cX8_letTickGo 38 = .ok (.goto (-23), 3) := by decide +kernel
theorem dX8_letTickGo_41 : decode cX8_letTickGo 41 = .ok (.iconst 0, 1) := by decide +kernel
theorem dX8_letTickGo_42 : decode cX8_letTickGo 42 = .ok (.istore_n 2, 1) := by decide +kernel
theorem dX8_letTickGo_43 : decode cX8_letTickGo 43 = .ok (.iload_n 2, 1) := by decide +kernel
theorem dX8_letTickGo_44 : decode cX8_letTickGo 44 = .ok (.iload_n 1, 1) := by decide +kernel
theorem dX8_letTickGo_45 : decode cX8_letTickGo 45 = .ok (.if_icmp .ge 23, 3) := by decide +kernel
theorem dX8_letTickGo_48 : decode cX8_letTickGo 48 = .ok (.aload_n 0, 1) := by decide +kernel
theorem dX8_letTickGo_49 : decode cX8_letTickGo 49 = .ok (.getfield 18, 3) := by decide +kernel
theorem dX8_letTickGo_52 : decode cX8_letTickGo 52 = .ok (.iload_n 2, 1) := by decide +kernel
theorem dX8_letTickGo_53 : decode cX8_letTickGo 53 = .ok (.iaload, 1) := by decide +kernel
theorem dX8_letTickGo_54 : decode cX8_letTickGo 54 = .ok (.ifCond .ne 8, 3) := by decide +kernel
theorem dX8_letTickGo_57 : decode cX8_letTickGo 57 = .ok (.aload_n 0, 1) := by decide +kernel
theorem dX8_letTickGo_58 : decode cX8_letTickGo 58 = .ok (.iload_n 2, 1) := by decide +kernel
theorem dX8_letTickGo_59 : decode cX8_letTickGo 59 = .ok (.invokevirtual 153, 3) := by decide +kernel
theorem dX8_letTickGo_62 : decode cX8_letTickGo 62 = .ok (.iinc 2 1, 3) := by decide +kernel
theorem dX8_letTickGo_65 : decode cX8_letTickGo 65 = .ok (.goto (-22), 3) := by decide +kernel
theorem dX8_letTickGo_68 : decode cX8_letTickGo 68 = .ok (.iconst 0, 1) := by decide +kernel
theorem dX8_letTickGo_69 : decode cX8_letTickGo 69 = .ok (.istore_n 2, 1) := by decide +kernel
theorem dX8_letTickGo_70 : decode cX8_letTickGo 70 = .ok (.iload_n 2, 1) := by decide +kernel
theorem dX8_letTickGo_71 : decode cX8_letTickGo 71 = .ok (.iload_n 1, 1) := by decide +kernel
theorem dX8_letTickGo_72 : decode cX8_letTickGo 72 = .ok (.if_icmp .ge 23, 3) := by decide +kernel
theorem dX8_letTickGo_75 : decode cX8_letTickGo 75 = .ok (.aload_n 0, 1) := by decide +kernel
theorem dX8_letTickGo_76 : decode cX8_letTickGo 76 = .ok (.getfield 18, 3) := by decide +kernel
theorem dX8_letTickGo_79 : decode cX8_letTickGo 79 = .ok (.iload_n 2, 1) := by decide +kernel
theorem dX8_letTickGo_80 : decode cX8_letTickGo 80 = .ok (.iaload, 1) := by decide +kernel
theorem dX8_letTickGo_81 : decode cX8_letTickGo 81 = .ok (.ifCond .ne 8, 3) := by decide +kernel
theorem dX8_letTickGo_84 : decode cX8_letTickGo 84 = .ok (.aload_n 0, 1) := by decide +kernel
theorem dX8_letTickGo_85 : decode cX8_letTickGo 85 = .ok (.iload_n 2, 1) := by decide +kernel
theorem dX8_letTickGo_86 : decode cX8_letTickGo 86 = .ok (.invokevirtual 156, 3) := by decide +kernel
theorem dX8_letTickGo_89 : decode cX8_letTickGo 89 = .ok (.iinc 2 1, 3) := by decide +kernel
theorem dX8_letTickGo_92 : decode cX8_letTickGo 92 = .ok (.goto (-22), 3) := by decide +kernel
theorem dX8_letTickGo_95 : decode cX8_letTickGo 95 = .ok (.iconst 0, 1) := by decide +kernel
theorem dX8_letTickGo_96 : decode cX8_letTickGo 96 = .ok (.istore_n 2, 1) := by decide +kernel
theorem dX8_letTickGo_97 : decode cX8_letTickGo 97 = .ok (.iconst 0, 1) := by decide +kernel
theorem dX8_letTickGo_98 : decode cX8_letTickGo 98 = .ok (.istore_n 3, 1) := by decide +kernel
theorem dX8_letTickGo_99 : decode cX8_letTickGo 99 = .ok (.iload_n 3, 1) := by decide +kernel
theorem dX8_letTickGo_100 : decode cX8_letTickGo 100 = .ok (.iload_n 1, 1) := by decide +kernel
theorem dX8_letTickGo_101 : decode cX8_letTickGo 101 = .ok (.if_icmp .ge 60, 3) := by decide +kernel
theorem dX8_letTickGo_104 : decode cX8_letTickGo 104 = .ok (.aload_n 0, 1) := by decide +kernel
theorem dX8_letTickGo_105 : decode cX8_letTickGo 105 = .ok (.getfield 18, 3) := by decide +kernel
theorem dX8_letTickGo_108 : decode cX8_letTickGo 108 = .ok (.iload_n 3, 1) := by decide +kernel
theorem dX8_letTickGo_109 : decode cX8_letTickGo 109 = .ok (.iaload, 1) := by decide +kernel
theorem dX8_letTickGo_110 : decode cX8_letTickGo 110 = .ok (.iconst 1, 1) := by decide +kernel
theorem dX8_letTickGo_111 : decode cX8_letTickGo 111 = .ok (.if_icmp .ne 44, 3) := by decide +kernel
theorem dX8_letTickGo_114 : decode cX8_letTickGo 114 = .ok (.aload_n 0, 1) := by decide +kernel
theorem dX8_letTickGo_115 : decode cX8_letTickGo 115 = .ok (.iload_n 3, 1) := by decide +kernel
theorem dX8_letTickGo_116 : decode cX8_letTickGo 116 = .ok (.iload_n 2, 1) := by decide +kernel
theorem dX8_letTickGo_117 : decode cX8_letTickGo 117 = .ok (.invokevirtual 159, 3) := by decide +kernel
theorem dX8_letTickGo_120 : decode cX8_letTickGo 120 = .ok (.istore 4, 2) := by decide +kernel
theorem dX8_letTickGo_122 : decode cX8_letTickGo 122 = .ok (.iload 4, 2) := by decide +kernel
theorem dX8_letTickGo_124 : decode cX8_letTickGo 124 = .ok (.iconst (-1), 1) := by decide +kernel
theorem dX8_letTickGo_125 : decode cX8_letTickGo 125 = .ok (.if_icmp .ne 16, 3) := by decide +kernel
theorem dX8_letTickGo_128 : decode cX8_letTickGo 128 = .ok (.aload_n 0, 1) := by decide +kernel
theorem dX8_letTickGo_129 : decode cX8_letTickGo 129 = .ok (.getfield 36, 3) := by decide +kernel
theorem dX8_letTickGo_132 : decode cX8_letTickGo 132 = .ok (.iload_n 3, 1) := by decide +kernel
theorem dX8_letTickGo_133 : decode cX8_letTickGo 133 = .ok (.dup2, 1) := by decide +kernel
theorem dX8_letTickGo_134 : decode cX8_letTickGo 134 = .ok (.iaload, 1) := by decide +kernel
theorem dX8_letTickGo_135 : decode cX8_letTickGo 135 = .ok (.iconst 1, 1) := by decide +kernel
theorem dX8_letTickGo_136 : decode cX8_letTickGo 136 = .ok (.iadd, 1) := by decide +kernel
theorem dX8_letTickGo_137 : decode cX8_letTickGo 137 = .ok (.iastore, 1) := by decide +kernel
theorem dX8_letTickGo_138 : decode cX8_letTickGo 138 = .ok (.goto 17, 3) := by decide +kernel
theorem dX8_letTickGo_141 : decode cX8_letTickGo 141 = .ok (.iload_n 2, 1) := by decide +kernel
theorem dX8_letTickGo_142 : decode cX8_letTickGo 142 = .ok (.iconst 1, 1) := by decide +kernel
theorem dX8_letTickGo_143 : decode cX8_letTickGo 143 = .ok (.iload 4, 2) := by decide +kernel
theorem dX8_letTickGo_145 : decode cX8_letTickGo 145 = .ok (.ishl, 1) := by decide +kernel
theorem dX8_letTickGo_146 : decode cX8_letTickGo 146 = .ok (.ior, 1) := by decide +kernel
theorem dX8_letTickGo_147 : decode cX8_letTickGo 147 = .ok (.istore_n 2, 1) := by decide +kernel
theorem dX8_letTickGo_148 : decode cX8_letTickGo 148 = .ok (.aload_n 0, 1) := by decide +kernel
theorem dX8_letTickGo_149 : decode cX8_letTickGo 149 = .ok (.iload 4, 2) := by decide +kernel
theorem dX8_letTickGo_151 : decode cX8_letTickGo 151 = .ok (.iload_n 3, 1) := by decide +kernel
theorem dX8_letTickGo_152 : decode cX8_letTickGo 152 = .ok (.invokevirtual 162, 3) := by decide +kernel
theorem dX8_letTickGo_155 : decode cX8_letTickGo 155 = .ok (.iinc 3 1, 3) := by decide +kernel
theorem dX8_letTickGo_158 : decode cX8_letTickGo 158 = .ok (.goto (-59), 3) := by decide +kernel
theorem dX8_letTickGo_161 : decode cX8_letTickGo 161 = .ok (.aload_n 0, 1) := by decide +kernel
theorem dX8_letTickGo_162 : decode cX8_letTickGo 162 = .ok (.dup, 1) := by decide +kernel
theorem dX8_letTickGo_163 : decode cX8_letTickGo 163 = .ok (.getfield 46, 3) := by decide +kernel
theorem dX8_letTickGo_166 : decode cX8_letTickGo 166 = .ok (.iconst 1, 1) := by decide +kernel
theorem dX8_letTickGo_167 : decode cX8_letTickGo 167 = .ok (.iadd, 1) := by decide +kernel
theorem dX8_letTickGo_168 : decode cX8_letTickGo 168 = .ok (.putfield 46, 3) := by decide +kernel
theorem dX8_letTickGo_171 : decode cX8_letTickGo 171 = .ok (.return_, 1) := by decide +kernel
theorem dX8_stayOn_0 : decode cX8_stayOn 0 = .ok (.aload_n 0, 1) := by decide +kernel
theorem dX8_stayOn_1 : decode cX8_stayOn 1 = .ok (.getfield 30, 3) := by decide +kernel
theorem dX8_stayOn_4 : decode cX8_stayOn 4 = .ok (.iload_n 1, 1) := by decide +kernel
theorem dX8_stayOn_5 : decode cX8_stayOn 5 = .ok (.dup2, 1) := by decide +kernel
theorem dX8_stayOn_6 : decode cX8_stayOn 6 = .ok (.iaload, 1) := by decide +kernel
theorem dX8_stayOn_7 : decode cX8_stayOn 7 = .ok (.iconst 1, 1) := by decide +kernel
theorem dX8_stayOn_8 : decode cX8_stayOn 8 = .ok (.isub, 1) := by decide +kernel
theorem dX8_stayOn_9 : decode cX8_stayOn 9 = .ok (.iastore, 1) := by decide +kernel
theorem dX8_stayOn_10 : decode cX8_stayOn 10 = .ok (.aload_n 0, 1) := by decide +kernel
theorem dX8_stayOn_11 : decode cX8_stayOn 11 = .ok (.getfield 30, 3) := by decide +kernel
theorem dX8_stayOn_14 : decode cX8_stayOn 14 = .ok (.iload_n 1, 1) := by decide +kernel
theorem dX8_stayOn_15 : decode cX8_stayOn 15 = .ok (.iaload, 1) := by decide +kernel
theorem dX8_stayOn_16 : decode cX8_stayOn 16 = .ok (.ifCond .gt 8, 3) := by decide +kernel
theorem dX8_stayOn_19 : decode cX8_stayOn 19 = .ok (.aload_n 0, 1) := by decide +kernel
theorem dX8_stayOn_20 : decode cX8_stayOn 20 = .ok (.iload_n 1, 1) := by decide +kernel
theorem dX8_stayOn_21 : decode cX8_stayOn 21 = .ok (.invokevirtual 112, 3) := by decide +kernel
theorem dX8_stayOn_24 : decode cX8_stayOn 24 = .ok (.return_, 1) := by decide +kernel
theorem dX8_walkOn_0 : decode cX8_walkOn 0 = .ok (.aload_n 0, 1) := by decide +kernel
theorem dX8_walkOn_1 : decode cX8_walkOn 1 = .ok (.getfield 24, 3) := by decide +kernel
theorem dX8_walkOn_4 : decode cX8_walkOn 4 = .ok (.iload_n 1, 1) := by decide +kernel
theorem dX8_walkOn_5 : decode cX8_walkOn 5 = .ok (.iaload, 1) := by decide +kernel
theorem dX8_walkOn_6 : decode cX8_walkOn 6 = .ok (.ifCond .eq 14, 3) := by decide +kernel
theorem dX8_walkOn_9 : decode cX8_walkOn 9 = .ok (.aload_n 0, 1) := by decide +kernel
theorem dX8_walkOn_10 : decode cX8_walkOn 10 = .ok (.getfield 24, 3) := by decide +kernel
theorem dX8_walkOn_13 : decode cX8_walkOn 13 = .ok (.iload_n 1, 1) := by decide +kernel
theorem dX8_walkOn_14 : decode cX8_walkOn 14 = .ok (.iaload, 1) := by decide +kernel
theorem dX8_walkOn_15 : decode cX8_walkOn 15 = .ok (.iconst 1, 1) := by decide +kernel
theorem dX8_walkOn_16 : decode cX8_walkOn 16 = .ok (.if_icmp .eq 4, 3) := by decide +kernel
theorem dX8_walkOn_19 : decode cX8_walkOn 19 = .ok (.return_, 1) := by decide +kernel
theorem dX8_walkOn_20 : decode cX8_walkOn 20 = .ok (.aload_n 0, 1) := by decide +kernel
theorem dX8_walkOn_21 : decode cX8_walkOn 21 = .ok (.getfield 24, 3) := by decide +kernel
theorem dX8_walkOn_24 : decode cX8_walkOn 24 = .ok (.iload_n 1, 1) := by decide +kernel
theorem dX8_walkOn_25 : decode cX8_walkOn 25 = .ok (.iaload, 1) := by decide +kernel
theorem dX8_walkOn_26 : decode cX8_walkOn 26 = .ok (.ifCond .ne 14, 3) := by decide +kernel
theorem dX8_walkOn_29 : decode cX8_walkOn 29 = .ok (.aload_n 0, 1) := by decide +kernel
theorem dX8_walkOn_30 : decode cX8_walkOn 30 = .ok (.getfield 21, 3) := by decide +kernel
theorem dX8_walkOn_33 : decode cX8_walkOn 33 = .ok (.iload_n 1, 1) := by decide +kernel
theorem dX8_walkOn_34 : decode cX8_walkOn 34 = .ok (.iaload, 1) := by decide +kernel
theorem dX8_walkOn_35 : decode cX8_walkOn 35 = .ok (.iconst 1, 1) := by decide +kernel
theorem dX8_walkOn_36 : decode cX8_walkOn 36 = .ok (.iadd, 1) := by decide +kernel
theorem dX8_walkOn_37 : decode cX8_walkOn 37 = .ok (.goto 11, 3) := by decide +kernel
theorem dX8_walkOn_40 : decode cX8_walkOn 40 = .ok (.aload_n 0, 1) := by decide +kernel
theorem dX8_walkOn_41 : decode cX8_walkOn 41 = .ok (.getfield 21, 3) := by decide +kernel
theorem dX8_walkOn_44 : decode cX8_walkOn 44 = .ok (.iload_n 1, 1) := by decide +kernel
theorem dX8_walkOn_45 : decode cX8_walkOn 45 = .ok (.iaload, 1) := by decide +kernel
theorem dX8_walkOn_46 : decode cX8_walkOn 46 = .ok (.iconst 1, 1) := by decide +kernel
theorem dX8_walkOn_47 : decode cX8_walkOn 47 = .ok (.isub, 1) := by decide +kernel
theorem dX8_walkOn_48 : decode cX8_walkOn 48 = .ok (.istore_n 2, 1) := by decide +kernel
theorem dX8_walkOn_49 : decode cX8_walkOn 49 = .ok (.iload_n 2, 1) := by decide +kernel
theorem dX8_walkOn_50 : decode cX8_walkOn 50 = .ok (.ifCond .lt 14, 3) := by decide +kernel
theorem dX8_walkOn_53 : decode cX8_walkOn 53 = .ok (.iload_n 2, 1) := by decide +kernel
theorem dX8_walkOn_54 : decode cX8_walkOn 54 = .ok (.aload_n 0, 1) := by decide +kernel
theorem dX8_walkOn_55 : decode cX8_walkOn 55 = .ok (.getfield 42, 3) := by decide +kernel
theorem dX8_walkOn_58 : decode cX8_walkOn 58 = .ok (.getfield 165, 3) := by decide +kernel
theorem dX8_walkOn_61 : decode cX8_walkOn 61 = .ok (.if_icmp .lt 26, 3) := by decide +kernel
theorem dX8_walkOn_64 : decode cX8_walkOn 64 = .ok (.aload_n 0, 1) := by decide +kernel
theorem dX8_walkOn_65 : decode cX8_walkOn 65 = .ok (.getfield 24, 3) := by decide +kernel
theorem dX8_walkOn_68 : decode cX8_walkOn 68 = .ok (.iload_n 1, 1) := by decide +kernel
theorem dX8_walkOn_69 : decode cX8_walkOn 69 = .ok (.aload_n 0, 1) := by decide +kernel
theorem dX8_walkOn_70 : decode cX8_walkOn 70 = .ok (.getfield 24, 3) := by decide +kernel
theorem dX8_walkOn_73 : decode cX8_walkOn 73 = .ok (.iload_n 1, 1) := by decide +kernel
theorem dX8_walkOn_74 : decode cX8_walkOn 74 = .ok (.iaload, 1) := by decide +kernel
theorem dX8_walkOn_75 : decode cX8_walkOn 75 = .ok (.ifCond .ne 7, 3) := by decide +kernel
theorem dX8_walkOn_78 : decode cX8_walkOn 78 = .ok (.iconst 1, 1) := by decide +kernel
theorem dX8_walkOn_79 : decode cX8_walkOn 79 = .ok (.goto 4, 3) := by decide +kernel
theorem dX8_walkOn_82 : decode cX8_walkOn 82 = .ok (.iconst 0, 1) := by decide +kernel
theorem dX8_walkOn_83 : decode cX8_walkOn 83 = .ok (.iastore, 1) := by decide +kernel
theorem dX8_walkOn_84 : decode cX8_walkOn 84 = .ok (.goto 10, 3) := by decide +kernel
theorem dX8_walkOn_87 : decode cX8_walkOn 87 = .ok (.aload_n 0, 1) := by decide +kernel
theorem dX8_walkOn_88 : decode cX8_walkOn 88 = .ok (.getfield 21, 3) := by decide +kernel
theorem dX8_walkOn_91 : decode cX8_walkOn 91 = .ok (.iload_n 1, 1) := by decide +kernel
theorem dX8_walkOn_92 : decode cX8_walkOn 92 = .ok (.iload_n 2, 1) := by decide +kernel
theorem dX8_walkOn_93 : decode cX8_walkOn 93 = .ok (.iastore, 1) := by decide +kernel
theorem dX8_walkOn_94 : decode cX8_walkOn 94 = .ok (.return_, 1) := by decide +kernel
theorem dX8_callAtDoor_0 : decode cX8_callAtDoor 0 = .ok (.iconst 0, 1) := by decide +kernel
theorem dX8_callAtDoor_1 : decode cX8_callAtDoor 1 = .ok (.istore_n 2, 1) := by decide +kernel
theorem dX8_callAtDoor_2 : decode cX8_callAtDoor 2 = .ok (.iload_n 2, 1) := by decide +kernel
theorem dX8_callAtDoor_3 : decode cX8_callAtDoor 3 = .ok (.aload_n 0, 1) := by decide +kernel
theorem dX8_callAtDoor_4 : decode cX8_callAtDoor 4 = .ok (.getfield 53, 3) := by decide +kernel
theorem dX8_callAtDoor_7 : decode cX8_callAtDoor 7 = .ok (.if_icmp .ge 72, 3) := by decide +kernel
theorem dX8_callAtDoor_10 : decode cX8_callAtDoor 10 = .ok (.iload_n 2, 1) := by decide +kernel
theorem dX8_callAtDoor_11 : decode cX8_callAtDoor 11 = .ok (.bipush 12, 2) := by decide +kernel
theorem dX8_callAtDoor_13 : decode cX8_callAtDoor 13 = .ok (.if_icmp .ge 66, 3) := by decide +kernel
theorem dX8_callAtDoor_16 : decode cX8_callAtDoor 16 = .ok (.aload_n 0, 1) := by decide +kernel
theorem dX8_callAtDoor_17 : decode cX8_callAtDoor 17 = .ok (.getfield 9, 3) := by decide +kernel
theorem dX8_callAtDoor_20 : decode cX8_callAtDoor 20 = .ok (.iload_n 2, 1) := by decide +kernel
theorem dX8_callAtDoor_21 : decode cX8_callAtDoor 21 = .ok (.iaload, 1) := by decide +kernel
theorem dX8_callAtDoor_22 : decode cX8_callAtDoor 22 = .ok (.iload_n 1, 1) := by decide +kernel
theorem dX8_callAtDoor_23 : decode cX8_callAtDoor 23 = .ok (.if_icmp .ne 50, 3) := by decide +kernel
theorem dX8_callAtDoor_26 : decode cX8_callAtDoor 26 = .ok (.aload_n 0, 1) := by decide +kernel
theorem dX8_callAtDoor_27 : decode cX8_callAtDoor 27 = .ok (.getfield 42, 3) := by decide +kernel
theorem dX8_callAtDoor_30 : decode cX8_callAtDoor 30 = .ok (.aload_n 0, 1) := by decide +kernel
theorem dX8_callAtDoor_31 : decode cX8_callAtDoor 31 = .ok (.getfield 15, 3) := by decide +kernel
theorem dX8_callAtDoor_34 : decode cX8_callAtDoor 34 = .ok (.iload_n 2, 1) := by decide +kernel
theorem dX8_callAtDoor_35 : decode cX8_callAtDoor 35 = .ok (.iaload, 1) := by decide +kernel
theorem dX8_callAtDoor_36 : decode cX8_callAtDoor 36 = .ok (.invokevirtual 109, 3) := by decide +kernel
theorem dX8_callAtDoor_39 : decode cX8_callAtDoor 39 = .ok (.aload_n 0, 1) := by decide +kernel
theorem dX8_callAtDoor_40 : decode cX8_callAtDoor 40 = .ok (.getfield 21, 3) := by decide +kernel
theorem dX8_callAtDoor_43 : decode cX8_callAtDoor 43 = .ok (.iload_n 1, 1) := by decide +kernel
theorem dX8_callAtDoor_44 : decode cX8_callAtDoor 44 = .ok (.iaload, 1) := by decide +kernel
theorem dX8_callAtDoor_45 : decode cX8_callAtDoor 45 = .ok (.if_icmp .ne 28, 3) := by decide +kernel
theorem dX8_callAtDoor_48 : decode cX8_callAtDoor 48 = .ok (.aload_n 0, 1) := by decide +kernel
theorem dX8_callAtDoor_49 : decode cX8_callAtDoor 49 = .ok (.getfield 18, 3) := by decide +kernel
theorem dX8_callAtDoor_52 : decode cX8_callAtDoor 52 = .ok (.iload_n 1, 1) := by decide +kernel
theorem dX8_callAtDoor_53 : decode cX8_callAtDoor 53 = .ok (.iconst 1, 1) := by decide +kernel
theorem dX8_callAtDoor_54 : decode cX8_callAtDoor 54 = .ok (.iastore, 1) := by decide +kernel
theorem dX8_callAtDoor_55 : decode cX8_callAtDoor 55 = .ok (.aload_n 0, 1) := by decide +kernel
theorem dX8_callAtDoor_56 : decode cX8_callAtDoor 56 = .ok (.getfield 27, 3) := by decide +kernel
theorem dX8_callAtDoor_59 : decode cX8_callAtDoor 59 = .ok (.iload_n 1, 1) := by decide +kernel
theorem dX8_callAtDoor_60 : decode cX8_callAtDoor 60 = .ok (.aload_n 0, 1) := by decide +kernel
theorem dX8_callAtDoor_61 : decode cX8_callAtDoor 61 = .ok (.getfield 15, 3) := by decide +kernel
theorem dX8_callAtDoor_64 : decode cX8_callAtDoor 64 = .ok (.iload_n 2, 1) := by decide +kernel
theorem dX8_callAtDoor_65 : decode cX8_callAtDoor 65 = .ok (.iaload, 1) := by decide +kernel
theorem dX8_callAtDoor_66 : decode cX8_callAtDoor 66 = .ok (.iastore, 1) := by decide +kernel
theorem dX8_callAtDoor_67 : decode cX8_callAtDoor 67 = .ok (.aload_n 0, 1) := by decide +kernel
theorem dX8_callAtDoor_68 : decode cX8_callAtDoor 68 = .ok (.iload_n 2, 1) := by decide +kernel
theorem dX8_callAtDoor_69 : decode cX8_callAtDoor 69 = .ok (.invokevirtual 168, 3) := by decide +kernel
theorem dX8_callAtDoor_72 : decode cX8_callAtDoor 72 = .ok (.return_, 1) := by decide +kernel
theorem dX8_callAtDoor_73 : decode cX8_callAtDoor 73 = .ok (.iinc 2 1, 3) := by decide +kernel
theorem dX8_callAtDoor_76 : decode cX8_callAtDoor 76 = .ok (.goto (-74), 3) := by decide +kernel
theorem dX8_callAtDoor_79 : decode cX8_callAtDoor 79 = .ok (.return_, 1) := by decide +kernel
theorem dX8_dropCall_0 : decode cX8_dropCall 0 = .ok (.iload_n 1, 1) := by decide +kernel
theorem dX8_dropCall_1 : decode cX8_dropCall 1 = .ok (.istore_n 2, 1) := by decide +kernel
theorem dX8_dropCall_2 : decode cX8_dropCall 2 = .ok (.iload_n 2, 1) := by decide +kernel
theorem dX8_dropCall_3 : decode cX8_dropCall 3 = .ok (.ifCond .lt 55, 3) := by decide +kernel
theorem dX8_dropCall_6 : decode cX8_dropCall 6 = .ok (.iload_n 2, 1) := by decide +kernel
theorem dX8_dropCall_7 : decode cX8_dropCall 7 = .ok (.iconst 1, 1) := by decide +kernel
theorem dX8_dropCall_8 : decode cX8_dropCall 8 = .ok (.iadd, 1) := by decide +kernel
theorem dX8_dropCall_9 : decode cX8_dropCall 9 = .ok (.aload_n 0, 1) := by decide +kernel
theorem dX8_dropCall_10 : decode cX8_dropCall 10 = .ok (.getfield 53, 3) := by decide +kernel
theorem dX8_dropCall_13 : decode cX8_dropCall 13 = .ok (.if_icmp .ge 45, 3) := by decide +kernel
theorem dX8_dropCall_16 : decode cX8_dropCall 16 = .ok (.iload_n 2, 1) := by decide +kernel
theorem dX8_dropCall_17 : decode cX8_dropCall 17 = .ok (.iconst 1, 1) := by decide +kernel
theorem dX8_dropCall_18 : decode cX8_dropCall 18 = .ok (.iadd, 1) := by decide +kernel
theorem dX8_dropCall_19 : decode cX8_dropCall 19 = .ok (.bipush 12, 2) := by decide +kernel
theorem dX8_dropCall_21 : decode cX8_dropCall 21 = .ok (.if_icmp .ge 37, 3) := by decide +kernel
theorem dX8_dropCall_24 : decode cX8_dropCall 24 = .ok (.aload_n 0, 1) := by decide +kernel
theorem dX8_dropCall_25 : decode cX8_dropCall 25 = .ok (.getfield 9, 3) := by decide +kernel
theorem dX8_dropCall_28 : decode cX8_dropCall 28 = .ok (.iload_n 2, 1) := by decide +kernel
theorem dX8_dropCall_29 : decode cX8_dropCall 29 = .ok (.aload_n 0, 1) := by decide +kernel
theorem dX8_dropCall_30 : decode cX8_dropCall 30 = .ok (.getfield 9, 3) := by decide +kernel
theorem dX8_dropCall_33 : decode cX8_dropCall 33 = .ok (.iload_n 2, 1) := by decide +kernel
theorem dX8_dropCall_34 : decode cX8_dropCall 34 = .ok (.iconst 1, 1) := by decide +kernel
theorem dX8_dropCall_35 : decode cX8_dropCall 35 = .ok (.iadd, 1) := by decide +kernel
theorem dX8_dropCall_36 : decode cX8_dropCall 36 = .ok (.iaload, 1) := by decide +kernel
theorem dX8_dropCall_37 : decode cX8_dropCall 37 = .ok (.iastore, 1) := by decide +kernel
theorem dX8_dropCall_38 : decode cX8_dropCall 38 = .ok (.aload_n 0, 1) := by decide +kernel
theorem dX8_dropCall_39 : decode cX8_dropCall 39 = .ok (.getfield 15, 3) := by decide +kernel
theorem dX8_dropCall_42 : decode cX8_dropCall 42 = .ok (.iload_n 2, 1) := by decide +kernel
theorem dX8_dropCall_43 : decode cX8_dropCall 43 = .ok (.aload_n 0, 1) := by decide +kernel
theorem dX8_dropCall_44 : decode cX8_dropCall 44 = .ok (.getfield 15, 3) := by decide +kernel
theorem dX8_dropCall_47 : decode cX8_dropCall 47 = .ok (.iload_n 2, 1) := by decide +kernel
theorem dX8_dropCall_48 : decode cX8_dropCall 48 = .ok (.iconst 1, 1) := by decide +kernel
theorem dX8_dropCall_49 : decode cX8_dropCall 49 = .ok (.iadd, 1) := by decide +kernel
theorem dX8_dropCall_50 : decode cX8_dropCall 50 = .ok (.iaload, 1) := by decide +kernel
theorem dX8_dropCall_51 : decode cX8_dropCall 51 = .ok (.iastore, 1) := by decide +kernel
theorem dX8_dropCall_52 : decode cX8_dropCall 52 = .ok (.iinc 2 1, 3) := by decide +kernel
theorem dX8_dropCall_55 : decode cX8_dropCall 55 = .ok (.goto (-53), 3) := by decide +kernel
theorem dX8_dropCall_58 : decode cX8_dropCall 58 = .ok (.aload_n 0, 1) := by decide +kernel
theorem dX8_dropCall_59 : decode cX8_dropCall 59 = .ok (.dup, 1) := by decide +kernel
theorem dX8_dropCall_60 : decode cX8_dropCall 60 = .ok (.getfield 53, 3) := by decide +kernel
theorem dX8_dropCall_63 : decode cX8_dropCall 63 = .ok (.iconst 1, 1) := by decide +kernel
theorem dX8_dropCall_64 : decode cX8_dropCall 64 = .ok (.isub, 1) := by decide +kernel
theorem dX8_dropCall_65 : decode cX8_dropCall 65 = .ok (.putfield 53, 3) := by decide +kernel
theorem dX8_dropCall_68 : decode cX8_dropCall 68 = .ok (.return_, 1) := by decide +kernel
theorem dX8_openDoor_0 : decode cX8_openDoor 0 = .ok (.aload_n 0, 1) := by decide +kernel
theorem dX8_openDoor_1 : decode cX8_openDoor 1 = .ok (.getfield 42, 3) := by decide +kernel
theorem dX8_openDoor_4 : decode cX8_openDoor 4 = .ok (.iload_n 1, 1) := by decide +kernel
theorem dX8_openDoor_5 : decode cX8_openDoor 5 = .ok (.invokevirtual 62, 3) := by decide +kernel
theorem dX8_openDoor_8 : decode cX8_openDoor 8 = .ok (.ifCond .eq 14, 3) := by decide +kernel
theorem dX8_openDoor_11 : decode cX8_openDoor 11 = .ok (.aload_n 0, 1) := by decide +kernel
theorem dX8_openDoor_12 : decode cX8_openDoor 12 = .ok (.getfield 42, 3) := by decide +kernel
theorem dX8_openDoor_15 : decode cX8_openDoor 15 = .ok (.iload_n 2, 1) := by decide +kernel
theorem dX8_openDoor_16 : decode cX8_openDoor 16 = .ok (.invokevirtual 62, 3) := by decide +kernel
theorem dX8_openDoor_19 : decode cX8_openDoor 19 = .ok (.ifCond .ne 4, 3) := by decide +kernel
theorem dX8_openDoor_22 : decode cX8_openDoor 22 = .ok (.return_, 1) := by decide +kernel
theorem dX8_openDoor_23 : decode cX8_openDoor 23 = .ok (.iconst 1, 1) := by decide +kernel
theorem dX8_openDoor_24 : decode cX8_openDoor 24 = .ok (.iload_n 2, 1) := by decide +kernel
theorem dX8_openDoor_25 : decode cX8_openDoor 25 = .ok (.ishl, 1) := by decide +kernel
theorem dX8_openDoor_26 : decode cX8_openDoor 26 = .ok (.aload_n 0, 1) := by decide +kernel
theorem dX8_openDoor_27 : decode cX8_openDoor 27 = .ok (.getfield 42, 3) := by decide +kernel
theorem dX8_openDoor_30 : decode cX8_openDoor 30 = .ok (.aload_n 0, 1) := by decide +kernel
theorem dX8_openDoor_31 : decode cX8_openDoor 31 = .ok (.getfield 27, 3) := by decide +kernel
theorem dX8_openDoor_34 : decode cX8_openDoor 34 = .ok (.iload_n 2, 1) := by decide +kernel
theorem dX8_openDoor_35 : decode cX8_openDoor 35 = .ok (.iaload, 1) := by decide +kernel
theorem dX8_openDoor_36 : decode cX8_openDoor 36 = .ok (.invokevirtual 72, 3) := by decide +kernel
theorem dX8_openDoor_39 : decode cX8_openDoor 39 = .ok (.ior, 1) := by decide +kernel
theorem dX8_openDoor_40 : decode cX8_openDoor 40 = .ok (.istore_n 3, 1) := by decide +kernel
theorem dX8_openDoor_41 : decode cX8_openDoor 41 = .ok (.aload_n 0, 1) := by decide +kernel
theorem dX8_openDoor_42 : decode cX8_openDoor 42 = .ok (.getfield 39, 3) := by decide +kernel
theorem dX8_openDoor_45 : decode cX8_openDoor 45 = .ok (.iload_n 1, 1) := by decide +kernel
theorem dX8_openDoor_46 : decode cX8_openDoor 46 = .ok (.dup2, 1) := by decide +kernel
theorem dX8_openDoor_47 : decode cX8_openDoor 47 = .ok (.iaload, 1) := by decide +kernel
theorem dX8_openDoor_48 : decode cX8_openDoor 48 = .ok (.iconst 1, 1) := by decide +kernel
theorem dX8_openDoor_49 : decode cX8_openDoor 49 = .ok (.iadd, 1) := by decide +kernel
theorem dX8_openDoor_50 : decode cX8_openDoor 50 = .ok (.iastore, 1) := by decide +kernel
theorem dX8_openDoor_51 : decode cX8_openDoor 51 = .ok (.aload_n 0, 1) := by decide +kernel
theorem dX8_openDoor_52 : decode cX8_openDoor 52 = .ok (.getfield 42, 3) := by decide +kernel
theorem dX8_openDoor_55 : decode cX8_openDoor 55 = .ok (.iload_n 1, 1) := by decide +kernel
theorem dX8_openDoor_56 : decode cX8_openDoor 56 = .ok (.invokevirtual 82, 3) := by decide +kernel
theorem dX8_openDoor_59 : decode cX8_openDoor 59 = .ok (.ifCond .eq 30, 3) := by decide +kernel
theorem dX8_openDoor_62 : decode cX8_openDoor 62 = .ok (.aload_n 0, 1) := by decide +kernel
theorem dX8_openDoor_63 : decode cX8_openDoor 63 = .ok (.iload_n 1, 1) := by decide +kernel
theorem dX8_openDoor_64 : decode cX8_openDoor 64 = .ok (.iload_n 2, 1) := by decide +kernel
theorem dX8_openDoor_65 : decode cX8_openDoor 65 = .ok (.invokevirtual 116, 3) := by decide +kernel
theorem dX8_openDoor_68 : decode cX8_openDoor 68 = .ok (.ifCond .eq 21, 3) := by decide +kernel
theorem dX8_openDoor_71 : decode cX8_openDoor 71 = .ok (.aload_n 0, 1) := by decide +kernel
theorem dX8_openDoor_72 : decode cX8_openDoor 72 = .ok (.iload_n 2, 1) := by decide +kernel
theorem dX8_openDoor_73 : decode cX8_openDoor 73 = .ok (.invokevirtual 112, 3) := by decide +kernel
theorem dX8_openDoor_76 : decode cX8_openDoor 76 = .ok (.aload_n 0, 1) := by decide +kernel
theorem dX8_openDoor_77 : decode cX8_openDoor 77 = .ok (.dup, 1) := by decide +kernel
theorem dX8_openDoor_78 : decode cX8_openDoor 78 = .ok (.getfield 50, 3) := by decide +kernel
theorem dX8_openDoor_81 : decode cX8_openDoor 81 = .ok (.iconst 1, 1) := by decide +kernel
theorem dX8_openDoor_82 : decode cX8_openDoor 82 = .ok (.iadd, 1) := by decide +kernel
theorem dX8_openDoor_83 : decode cX8_openDoor 83 = .ok (.putfield 50, 3) := by decide +kernel
theorem dX8_openDoor_86 : decode cX8_openDoor 86 = .ok (.goto 23, 3) := by decide +kernel
theorem dX8_openDoor_89 : decode cX8_openDoor 89 = .ok (.aload_n 0, 1) := by decide +kernel
theorem dX8_openDoor_90 : decode cX8_openDoor 90 = .ok (.getfield 18, 3) := by decide +kernel
theorem dX8_openDoor_93 : decode cX8_openDoor 93 = .ok (.iload_n 2, 1) := by decide +kernel
theorem dX8_openDoor_94 : decode cX8_openDoor 94 = .ok (.iconst 2, 1) := by decide +kernel
theorem dX8_openDoor_95 : decode cX8_openDoor 95 = .ok (.iastore, 1) := by decide +kernel
theorem dX8_openDoor_96 : decode cX8_openDoor 96 = .ok (.aload_n 0, 1) := by decide +kernel
theorem dX8_openDoor_97 : decode cX8_openDoor 97 = .ok (.getfield 30, 3) := by decide +kernel
theorem dX8_openDoor_100 : decode cX8_openDoor 100 = .ok (.iload_n 2, 1) := by decide +kernel
theorem dX8_openDoor_101 : decode cX8_openDoor 101 = .ok (.aload_n 0, 1) := by decide +kernel
theorem dX8_openDoor_102 : decode cX8_openDoor 102 = .ok (.getfield 42, 3) := by decide +kernel
theorem dX8_openDoor_105 : decode cX8_openDoor 105 = .ok (.getfield 171, 3) := by decide +kernel
theorem dX8_openDoor_108 : decode cX8_openDoor 108 = .ok (.iastore, 1) := by decide +kernel
theorem dX8_openDoor_109 : decode cX8_openDoor 109 = .ok (.aload_n 0, 1) := by decide +kernel
theorem dX8_openDoor_110 : decode cX8_openDoor 110 = .ok (.iload_n 1, 1) := by decide +kernel
theorem dX8_openDoor_111 : decode cX8_openDoor 111 = .ok (.iload_n 3, 1) := by decide +kernel
theorem dX8_openDoor_112 : decode cX8_openDoor 112 = .ok (.invokevirtual 75, 3) := by decide +kernel
theorem dX8_openDoor_115 : decode cX8_openDoor 115 = .ok (.return_, 1) := by decide +kernel
theorem dX8_answererOf_0 : decode cX8_answererOf 0 = .ok (.aload_n 0, 1) := by decide +kernel
theorem dX8_answererOf_1 : decode cX8_answererOf 1 = .ok (.iload_n 1, 1) := by decide +kernel
theorem dX8_answererOf_2 : decode cX8_answererOf 2 = .ok (.invokevirtual 174, 3) := by decide +kernel
theorem dX8_answererOf_5 : decode cX8_answererOf 5 = .ok (.iload_n 2, 1) := by decide +kernel
theorem dX8_answererOf_6 : decode cX8_answererOf 6 = .ok (.iconst (-1), 1) := by decide +kernel
theorem dX8_answererOf_7 : decode cX8_answererOf 7 = .ok (.ixor, 1) := by decide +kernel
theorem dX8_answererOf_8 : decode cX8_answererOf 8 = .ok (.iand, 1) := by decide +kernel
theorem dX8_answererOf_9 : decode cX8_answererOf 9 = .ok (.istore_n 3, 1) := by decide +kernel
theorem dX8_answererOf_10 : decode cX8_answererOf 10 = .ok (.iload_n 3, 1) := by decide +kernel
theorem dX8_answererOf_11 : decode cX8_answererOf 11 = .ok (.ifCond .eq 14, 3) := by decide +kernel
theorem dX8_answererOf_14 : decode cX8_answererOf 14 = .ok (.aload_n 0, 1) := by decide +kernel
theorem dX8_answererOf_15 : decode cX8_answererOf 15 = .ok (.getfield 42, 3) := by decide +kernel
theorem dX8_answererOf_18 : decode cX8_answererOf 18 = .ok (.iload_n 1, 1) := by decide +kernel
theorem dX8_answererOf_19 : decode cX8_answererOf 19 = .ok (.invokevirtual 62, 3) := by decide +kernel
theorem dX8_answererOf_22 : decode cX8_answererOf 22 = .ok (.ifCond .ne 5, 3) := by decide +kernel
theorem dX8_answererOf_25 : decode cX8_answererOf 25 = .ok (.iconst (-1), 1) := by decide +kernel
theorem dX8_answererOf_26 : decode cX8_answererOf 26 = .ok (.ireturn, 1) := by decide +kernel
theorem dX8_answererOf_27 : decode cX8_answererOf 27 = .ok (.iconst (-1), 1) := by decide +kernel
theorem dX8_answererOf_28 : decode cX8_answererOf 28 = .ok (.istore 4, 2) := by decide +kernel
theorem dX8_answererOf_30 : decode cX8_answererOf 30 = .ok (.iconst 0, 1) := by decide +kernel
theorem dX8_answererOf_31 : decode cX8_answererOf 31 = .ok (.istore 5, 2) := by decide +kernel
theorem dX8_answererOf_33 : decode cX8_answererOf 33 = .ok (.iconst 0, 1) := by decide +kernel
theorem dX8_answererOf_34 : decode cX8_answererOf 34 = .ok (.istore 6, 2) := by decide +kernel
theorem dX8_answererOf_36 : decode cX8_answererOf 36 = .ok (.iload 6, 2) := by decide +kernel
theorem dX8_answererOf_38 : decode cX8_answererOf 38 = .ok (.bipush 8, 2) := by decide +kernel
theorem dX8_answererOf_40 : decode cX8_answererOf 40 = .ok (.if_icmp .ge 70, 3) := by decide +kernel
theorem dX8_answererOf_43 : decode cX8_answererOf 43 = .ok (.iload 6, 2) := by decide +kernel
theorem dX8_answererOf_45 : decode cX8_answererOf 45 = .ok (.aload_n 0, 1) := by decide +kernel
theorem dX8_answererOf_46 : decode cX8_answererOf 46 = .ok (.getfield 42, 3) := by decide +kernel
theorem dX8_answererOf_49 : decode cX8_answererOf 49 = .ok (.getfield 92, 3) := by decide +kernel
theorem dX8_answererOf_52 : decode cX8_answererOf 52 = .ok (.if_icmp .ge 58, 3) := by decide +kernel
theorem dX8_answererOf_55 : decode cX8_answererOf 55 = .ok (.aload_n 0, 1) := by decide +kernel
theorem dX8_answererOf_56 : decode cX8_answererOf 56 = .ok (.getfield 21, 3) := by decide +kernel
theorem dX8_answererOf_59 : decode cX8_answererOf 59 = .ok (.iload 6, 2) := by decide +kernel
theorem dX8_answererOf_61 : decode cX8_answererOf 61 = .ok (.iaload, 1) := by decide +kernel
theorem dX8_answererOf_62 : decode cX8_answererOf 62 = .ok (.aload_n 0, 1) := by decide +kernel
theorem dX8_answererOf_63 : decode cX8_answererOf 63 = .ok (.getfield 21, 3) := by decide +kernel
theorem dX8_answererOf_66 : decode cX8_answererOf 66 = .ok (.iload_n 1, 1) := by decide +kernel
theorem dX8_answererOf_67 : decode cX8_answererOf 67 = .ok (.iaload, 1) := by decide +kernel
theorem dX8_answererOf_68 : decode cX8_answererOf 68 = .ok (.isub, 1) := by decide +kernel
theorem dX8_answererOf_69 : decode cX8_answererOf 69 = .ok (.invokestatic 177, 3) := by decide +kernel
theorem dX8_answererOf_72 : decode cX8_answererOf 72 = .ok (.istore 7, 2) := by decide +kernel
theorem dX8_answererOf_74 : decode cX8_answererOf 74 = .ok (.iload_n 3, 1) := by decide +kernel
theorem dX8_answererOf_75 : decode cX8_answererOf 75 = .ok (.iload 6, 2) := by decide +kernel
theorem dX8_answererOf_77 : decode cX8_answererOf 77 = .ok (.invokestatic 88, 3) := by decide +kernel
theorem dX8_answererOf_80 : decode cX8_answererOf 80 = .ok (.ifCond .eq 24, 3) := by decide +kernel
theorem dX8_answererOf_83 : decode cX8_answererOf 83 = .ok (.iload 4, 2) := by decide +kernel
theorem dX8_answererOf_85 : decode cX8_answererOf 85 = .ok (.iconst (-1), 1) := by decide +kernel
theorem dX8_answererOf_86 : decode cX8_answererOf 86 = .ok (.if_icmp .eq 10, 3) := by decide +kernel
theorem dX8_answererOf_89 : decode cX8_answererOf 89 = .ok (.iload 7, 2) := by decide +kernel
theorem dX8_answererOf_91 : decode cX8_answererOf 91 = .ok (.iload 5, 2) := by decide +kernel
theorem dX8_answererOf_93 : decode cX8_answererOf 93 = .ok (.if_icmp .ge 11, 3) := by decide +kernel
theorem dX8_answererOf_96 : decode cX8_answererOf 96 = .ok (.iload 6, 2) := by decide +kernel
theorem dX8_answererOf_98 : decode cX8_answererOf 98 = .ok (.istore 4, 2) := by decide +kernel
theorem dX8_answererOf_100 : decode cX8_answererOf 100 = .ok (.iload 7, 2) := by decide +kernel
theorem dX8_answererOf_102 : decode cX8_answererOf 102 = .ok (.istore 5, 2) := by decide +kernel
theorem dX8_answererOf_104 : decode cX8_answererOf 104 = .ok (.iinc 6 1, 3) := by decide +kernel
theorem dX8_answererOf_107 : decode cX8_answererOf 107 = .ok (.goto (-71), 3) := by decide +kernel
theorem dX8_answererOf_110 : decode cX8_answererOf 110 = .ok (.iload 4, 2) := by decide +kernel
theorem dX8_answererOf_112 : decode cX8_answererOf 112 = .ok (.ireturn, 1) := by decide +kernel
theorem dX8_thoseWhoCouldAnswer_0 : decode cX8_thoseWhoCouldAnswer 0 = .ok (.aload_n 0, 1) := by decide +kernel
theorem dX8_thoseWhoCouldAnswer_1 : decode cX8_thoseWhoCouldAnswer 1 = .ok (.getfield 42, 3) := by decide +kernel
theorem dX8_thoseWhoCouldAnswer_4 : decode cX8_thoseWhoCouldAnswer 4 = .ok (.iload_n 1, 1) := by decide +kernel
theorem dX8_thoseWhoCouldAnswer_5 : decode cX8_thoseWhoCouldAnswer 5 = .ok (.invokevirtual 62, 3) := by decide +kernel
theorem dX8_thoseWhoCouldAnswer_8 : decode cX8_thoseWhoCouldAnswer 8 = .ok (.ifCond .eq 13, 3) := by decide +kernel
theorem dX8_thoseWhoCouldAnswer_11 : decode cX8_thoseWhoCouldAnswer 11 = .ok (.aload_n 0, 1) := by decide +kernel
theorem dX8_thoseWhoCouldAnswer_12 : decode cX8_thoseWhoCouldAnswer 12 = .ok (.getfield 18, 3) := by decide +kernel
theorem dX8_thoseWhoCouldAnswer_15 : decode cX8_thoseWhoCouldAnswer 15 = .ok (.iload_n 1, 1) := by decide +kernel
theorem dX8_thoseWhoCouldAnswer_16 : decode cX8_thoseWhoCouldAnswer 16 = .ok (.iaload, 1) := by decide +kernel
theorem dX8_thoseWhoCouldAnswer_17 : decode cX8_thoseWhoCouldAnswer 17 = .ok (.iconst 1, 1) := by decide +kernel
theorem dX8_thoseWhoCouldAnswer_18 : decode cX8_thoseWhoCouldAnswer 18 = .ok (.if_icmp .eq 5, 3) := by decide +kernel
theorem dX8_thoseWhoCouldAnswer_21 : decode cX8_thoseWhoCouldAnswer 21 = .ok (.iconst 0, 1) := by decide +kernel
theorem dX8_thoseWhoCouldAnswer_22 : decode cX8_thoseWhoCouldAnswer 22 = .ok (.ireturn, 1) := by decide +kernel
theorem dX8_thoseWhoCouldAnswer_23 : decode cX8_thoseWhoCouldAnswer 23 = .ok (.iconst 0, 1) := by decide +kernel
theorem dX8_thoseWhoCouldAnswer_24 : decode cX8_thoseWhoCouldAnswer 24 = .ok (.istore_n 2, 1) := by decide +kernel
theorem dX8_thoseWhoCouldAnswer_25 : decode cX8_thoseWhoCouldAnswer 25 = .ok (.iconst 0, 1) := by decide +kernel
theorem dX8_thoseWhoCouldAnswer_26 : decode cX8_thoseWhoCouldAnswer 26 = .ok (.istore_n 3, 1) := by decide +kernel
theorem dX8_thoseWhoCouldAnswer_27 : decode cX8_thoseWhoCouldAnswer 27 = .ok (.iload_n 3, 1) := by decide +kernel
theorem dX8_thoseWhoCouldAnswer_28 : decode cX8_thoseWhoCouldAnswer 28 = .ok (.bipush 8, 2) := by decide +kernel
theorem dX8_thoseWhoCouldAnswer_30 : decode cX8_thoseWhoCouldAnswer 30 = .ok (.if_icmp .ge 61, 3) := by decide +kernel
theorem dX8_thoseWhoCouldAnswer_33 : decode cX8_thoseWhoCouldAnswer 33 = .ok (.iload_n 3, 1) := by decide +kernel
theorem dX8_thoseWhoCouldAnswer_34 : decode cX8_thoseWhoCouldAnswer 34 = .ok (.aload_n 0, 1) := by decide +kernel
theorem dX8_thoseWhoCouldAnswer_35 : decode cX8_thoseWhoCouldAnswer 35 = .ok (.getfield 42, 3) := by decide +kernel
theorem dX8_thoseWhoCouldAnswer_38 : decode cX8_thoseWhoCouldAnswer 38 = .ok (.getfield 92, 3) := by decide +kernel
theorem dX8_thoseWhoCouldAnswer_41 : decode cX8_thoseWhoCouldAnswer 41 = .ok (.if_icmp .ge 50, 3) := by decide +kernel
theorem dX8_thoseWhoCouldAnswer_44 : decode cX8_thoseWhoCouldAnswer 44 = .ok (.aload_n 0, 1) := by decide +kernel
theorem dX8_thoseWhoCouldAnswer_45 : decode cX8_thoseWhoCouldAnswer 45 = .ok (.getfield 18, 3) := by decide +kernel
theorem dX8_thoseWhoCouldAnswer_48 : decode cX8_thoseWhoCouldAnswer 48 = .ok (.iload_n 3, 1) := by decide +kernel
theorem dX8_thoseWhoCouldAnswer_49 : decode cX8_thoseWhoCouldAnswer 49 = .ok (.iaload, 1) := by decide +kernel
theorem dX8_thoseWhoCouldAnswer_50 : decode cX8_thoseWhoCouldAnswer 50 = .ok (.ifCond .ne 35, 3) := by decide +kernel
theorem dX8_thoseWhoCouldAnswer_53 : decode cX8_thoseWhoCouldAnswer 53 = .ok (.aload_n 0, 1) := by decide +kernel
theorem dX8_thoseWhoCouldAnswer_54 : decode cX8_thoseWhoCouldAnswer 54 = .ok (.getfield 21, 3) := by decide +kernel
theorem dX8_thoseWhoCouldAnswer_57 : decode cX8_thoseWhoCouldAnswer 57 = .ok (.iload_n 3, 1) := by decide +kernel
theorem dX8_thoseWhoCouldAnswer_58 : decode cX8_thoseWhoCouldAnswer 58 = .ok (.iaload, 1) := by decide +kernel
theorem dX8_thoseWhoCouldAnswer_59 : decode cX8_thoseWhoCouldAnswer 59 = .ok (.aload_n 0, 1) := by decide +kernel
theorem dX8_thoseWhoCouldAnswer_60 : decode cX8_thoseWhoCouldAnswer 60 = .ok (.getfield 21, 3) := by decide +kernel
theorem dX8_thoseWhoCouldAnswer_63 : decode cX8_thoseWhoCouldAnswer 63 = .ok (.iload_n 1, 1) := by decide +kernel
theorem dX8_thoseWhoCouldAnswer_64 : decode cX8_thoseWhoCouldAnswer 64 = .ok (.iaload, 1) := by decide +kernel
theorem dX8_thoseWhoCouldAnswer_65 : decode cX8_thoseWhoCouldAnswer 65 = .ok (.isub, 1) := by decide +kernel
theorem dX8_thoseWhoCouldAnswer_66 : decode cX8_thoseWhoCouldAnswer 66 = .ok (.invokestatic 177, 3) := by decide +kernel
theorem dX8_thoseWhoCouldAnswer_69 : decode cX8_thoseWhoCouldAnswer 69 = .ok (.aload_n 0, 1) := by decide +kernel
theorem dX8_thoseWhoCouldAnswer_70 : decode cX8_thoseWhoCouldAnswer 70 = .ok (.getfield 42, 3) := by decide +kernel
theorem dX8_thoseWhoCouldAnswer_73 : decode cX8_thoseWhoCouldAnswer 73 = .ok (.getfield 180, 3) := by decide +kernel
theorem dX8_thoseWhoCouldAnswer_76 : decode cX8_thoseWhoCouldAnswer 76 = .ok (.if_icmp .gt 9, 3) := by decide +kernel
theorem dX8_thoseWhoCouldAnswer_79 : decode cX8_thoseWhoCouldAnswer 79 = .ok (.iload_n 2, 1) := by decide +kernel
theorem dX8_thoseWhoCouldAnswer_80 : decode cX8_thoseWhoCouldAnswer 80 = .ok (.iconst 1, 1) := by decide +kernel
theorem dX8_thoseWhoCouldAnswer_81 : decode cX8_thoseWhoCouldAnswer 81 = .ok (.iload_n 3, 1) := by decide +kernel
theorem dX8_thoseWhoCouldAnswer_82 : decode cX8_thoseWhoCouldAnswer 82 = .ok (.ishl, 1) := by decide +kernel
theorem dX8_thoseWhoCouldAnswer_83 : decode cX8_thoseWhoCouldAnswer 83 = .ok (.ior, 1) := by decide +kernel
theorem dX8_thoseWhoCouldAnswer_84 : decode cX8_thoseWhoCouldAnswer 84 = .ok (.istore_n 2, 1) := by decide +kernel
theorem dX8_thoseWhoCouldAnswer_85 : decode cX8_thoseWhoCouldAnswer 85 = .ok (.iinc 3 1, 3) := by decide +kernel
theorem dX8_thoseWhoCouldAnswer_88 : decode cX8_thoseWhoCouldAnswer 88 = .ok (.goto (-61), 3) := by decide +kernel
theorem dX8_thoseWhoCouldAnswer_91 : decode cX8_thoseWhoCouldAnswer 91 = .ok (.iload_n 2, 1) := by decide +kernel
theorem dX8_thoseWhoCouldAnswer_92 : decode cX8_thoseWhoCouldAnswer 92 = .ok (.ifCond .ne 7, 3) := by decide +kernel
theorem dX8_thoseWhoCouldAnswer_95 : decode cX8_thoseWhoCouldAnswer 95 = .ok (.iconst 0, 1) := by decide +kernel
theorem dX8_thoseWhoCouldAnswer_96 : decode cX8_thoseWhoCouldAnswer 96 = .ok (.goto 15, 3) := by decide +kernel
theorem dX8_thoseWhoCouldAnswer_99 : decode cX8_thoseWhoCouldAnswer 99 = .ok (.iload_n 2, 1) := by decide +kernel
theorem dX8_thoseWhoCouldAnswer_100 : decode cX8_thoseWhoCouldAnswer 100 = .ok (.aload_n 0, 1) := by decide +kernel
theorem dX8_thoseWhoCouldAnswer_101 : decode cX8_thoseWhoCouldAnswer 101 = .ok (.aload_n 0, 1) := by decide +kernel
theorem dX8_thoseWhoCouldAnswer_102 : decode cX8_thoseWhoCouldAnswer 102 = .ok (.getfield 27, 3) := by decide +kernel
theorem dX8_thoseWhoCouldAnswer_105 : decode cX8_thoseWhoCouldAnswer 105 = .ok (.iload_n 1, 1) := by decide +kernel
theorem dX8_thoseWhoCouldAnswer_106 : decode cX8_thoseWhoCouldAnswer 106 = .ok (.iaload, 1) := by decide +kernel
theorem dX8_thoseWhoCouldAnswer_107 : decode cX8_thoseWhoCouldAnswer 107 = .ok (.invokevirtual 98, 3) := by decide +kernel
theorem dX8_thoseWhoCouldAnswer_110 : decode cX8_thoseWhoCouldAnswer 110 = .ok (.iand, 1) := by decide +kernel
theorem dX8_thoseWhoCouldAnswer_111 : decode cX8_thoseWhoCouldAnswer 111 = .ok (.ireturn, 1) := by decide +kernel
theorem dX8_whomJustTheseKnow_0 : decode cX8_whomJustTheseKnow 0 = .ok (.iload_n 1, 1) := by decide +kernel
theorem dX8_whomJustTheseKnow_1 : decode cX8_whomJustTheseKnow 1 = .ok (.iload_n 2, 1) := by decide +kernel
theorem dX8_whomJustTheseKnow_2 : decode cX8_whomJustTheseKnow 2 = .ok (.iand, 1) := by decide +kernel
theorem dX8_whomJustTheseKnow_3 : decode cX8_whomJustTheseKnow 3 = .ok (.ifCond .eq 5, 3) := by decide +kernel
theorem dX8_whomJustTheseKnow_6 : decode cX8_whomJustTheseKnow 6 = .ok (.iconst 0, 1) := by decide +kernel
theorem dX8_whomJustTheseKnow_7 : decode cX8_whomJustTheseKnow 7 = .ok (.ireturn, 1) := by decide +kernel
theorem dX8_whomJustTheseKnow_8 : decode cX8_whomJustTheseKnow 8 = .ok (.iconst 0, 1) := by decide +kernel
theorem dX8_whomJustTheseKnow_9 : decode cX8_whomJustTheseKnow 9 = .ok (.istore_n 3, 1) := by decide +kernel
theorem dX8_whomJustTheseKnow_10 : decode cX8_whomJustTheseKnow 10 = .ok (.iconst 0, 1) := by decide +kernel
theorem dX8_whomJustTheseKnow_11 : decode cX8_whomJustTheseKnow 11 = .ok (.istore 4, 2) := by decide +kernel
theorem dX8_whomJustTheseKnow_13 : decode cX8_whomJustTheseKnow 13 = .ok (.iload 4, 2) := by decide +kernel
theorem dX8_whomJustTheseKnow_15 : decode cX8_whomJustTheseKnow 15 = .ok (.bipush 8, 2) := by decide +kernel
theorem dX8_whomJustTheseKnow_17 : decode cX8_whomJustTheseKnow 17 = .ok (.if_icmp .ge 54, 3) := by decide +kernel
theorem dX8_whomJustTheseKnow_20 : decode cX8_whomJustTheseKnow 20 = .ok (.iload 4, 2) := by decide +kernel
theorem dX8_whomJustTheseKnow_22 : decode cX8_whomJustTheseKnow 22 = .ok (.aload_n 0, 1) := by decide +kernel
theorem dX8_whomJustTheseKnow_23 : decode cX8_whomJustTheseKnow 23 = .ok (.getfield 42, 3) := by decide +kernel
theorem dX8_whomJustTheseKnow_26 : decode cX8_whomJustTheseKnow 26 = .ok (.getfield 92, 3) := by decide +kernel
theorem dX8_whomJustTheseKnow_29 : decode cX8_whomJustTheseKnow 29 = .ok (.if_icmp .ge 42, 3) := by decide +kernel
theorem dX8_whomJustTheseKnow_32 : decode cX8_whomJustTheseKnow 32 = .ok (.iload_n 1, 1) := by decide +kernel
theorem dX8_whomJustTheseKnow_33 : decode cX8_whomJustTheseKnow 33 = .ok (.iload_n 2, 1) := by decide +kernel
theorem dX8_whomJustTheseKnow_34 : decode cX8_whomJustTheseKnow 34 = .ok (.ior, 1) := by decide +kernel
theorem dX8_whomJustTheseKnow_35 : decode cX8_whomJustTheseKnow 35 = .ok (.iload 4, 2) := by decide +kernel
theorem dX8_whomJustTheseKnow_37 : decode cX8_whomJustTheseKnow 37 = .ok (.invokestatic 88, 3) := by decide +kernel
theorem dX8_whomJustTheseKnow_40 : decode cX8_whomJustTheseKnow 40 = .ok (.ifCond .ne 25, 3) := by decide +kernel
theorem dX8_whomJustTheseKnow_43 : decode cX8_whomJustTheseKnow 43 = .ok (.aload_n 0, 1) := by decide +kernel
theorem dX8_whomJustTheseKnow_44 : decode cX8_whomJustTheseKnow 44 = .ok (.getfield 33, 3) := by decide +kernel
theorem dX8_whomJustTheseKnow_47 : decode cX8_whomJustTheseKnow 47 = .ok (.iload 4, 2) := by decide +kernel
theorem dX8_whomJustTheseKnow_49 : decode cX8_whomJustTheseKnow 49 = .ok (.iaload, 1) := by decide +kernel
theorem dX8_whomJustTheseKnow_50 : decode cX8_whomJustTheseKnow 50 = .ok (.iload_n 1, 1) := by decide +kernel
theorem dX8_whomJustTheseKnow_51 : decode cX8_whomJustTheseKnow 51 = .ok (.iload_n 2, 1) := by decide +kernel
theorem dX8_whomJustTheseKnow_52 : decode cX8_whomJustTheseKnow 52 = .ok (.ior, 1) := by decide +kernel
theorem dX8_whomJustTheseKnow_53 : decode cX8_whomJustTheseKnow 53 = .ok (.iand, 1) := by decide +kernel
theorem dX8_whomJustTheseKnow_54 : decode cX8_whomJustTheseKnow 54 = .ok (.iload_n 1, 1) := by decide +kernel
theorem dX8_whomJustTheseKnow_55 : decode cX8_whomJustTheseKnow 55 = .ok (.if_icmp .ne 10, 3) := by decide +kernel
theorem dX8_whomJustTheseKnow_58 : decode cX8_whomJustTheseKnow 58 = .ok (.iload_n 3, 1) := by decide +kernel
theorem dX8_whomJustTheseKnow_59 : decode cX8_whomJustTheseKnow 59 = .ok (.iconst 1, 1) := by decide +kernel
theorem dX8_whomJustTheseKnow_60 : decode cX8_whomJustTheseKnow 60 = .ok (.iload 4, 2) := by decide +kernel
theorem dX8_whomJustTheseKnow_62 : decode cX8_whomJustTheseKnow 62 = .ok (.ishl, 1) := by decide +kernel
theorem dX8_whomJustTheseKnow_63 : decode cX8_whomJustTheseKnow 63 = .ok (.ior, 1) := by decide +kernel
theorem dX8_whomJustTheseKnow_64 : decode cX8_whomJustTheseKnow 64 = .ok (.istore_n 3, 1) := by decide +kernel
theorem dX8_whomJustTheseKnow_65 : decode cX8_whomJustTheseKnow 65 = .ok (.iinc 4 1, 3) := by decide +kernel
theorem dX8_whomJustTheseKnow_68 : decode cX8_whomJustTheseKnow 68 = .ok (.goto (-55), 3) := by decide +kernel
theorem dX8_whomJustTheseKnow_71 : decode cX8_whomJustTheseKnow 71 = .ok (.iload_n 3, 1) := by decide +kernel
theorem dX8_whomJustTheseKnow_72 : decode cX8_whomJustTheseKnow 72 = .ok (.ireturn, 1) := by decide +kernel
theorem dX8_bestToAsk_0 : decode cX8_bestToAsk 0 = .ok (.iconst (-1), 1) := by decide +kernel
theorem dX8_bestToAsk_1 : decode cX8_bestToAsk 1 = .ok (.istore_n 2, 1) := by decide +kernel
theorem dX8_bestToAsk_2 : decode cX8_bestToAsk 2 = .ok (.iconst 0, 1) := by decide +kernel
theorem dX8_bestToAsk_3 : decode cX8_bestToAsk 3 = .ok (.istore_n 3, 1) := by decide +kernel
theorem dX8_bestToAsk_4 : decode cX8_bestToAsk 4 = .ok (.iconst 0, 1) := by decide +kernel
theorem dX8_bestToAsk_5 : decode cX8_bestToAsk 5 = .ok (.istore 4, 2) := by decide +kernel
theorem dX8_bestToAsk_7 : decode cX8_bestToAsk 7 = .ok (.iload 4, 2) := by decide +kernel
theorem dX8_bestToAsk_9 : decode cX8_bestToAsk 9 = .ok (.bipush 8, 2) := by decide +kernel
theorem dX8_bestToAsk_11 : decode cX8_bestToAsk 11 = .ok (.if_icmp .ge 98, 3) := by decide +kernel
theorem dX8_bestToAsk_14 : decode cX8_bestToAsk 14 = .ok (.iload 4, 2) := by decide +kernel
theorem dX8_bestToAsk_16 : decode cX8_bestToAsk 16 = .ok (.aload_n 0, 1) := by decide +kernel
theorem dX8_bestToAsk_17 : decode cX8_bestToAsk 17 = .ok (.getfield 42, 3) := by decide +kernel
theorem dX8_bestToAsk_20 : decode cX8_bestToAsk 20 = .ok (.getfield 92, 3) := by decide +kernel
theorem dX8_bestToAsk_23 : decode cX8_bestToAsk 23 = .ok (.if_icmp .ge 86, 3) := by decide +kernel
theorem dX8_bestToAsk_26 : decode cX8_bestToAsk 26 = .ok (.iload_n 1, 1) := by decide +kernel
theorem dX8_bestToAsk_27 : decode cX8_bestToAsk 27 = .ok (.iconst 1, 1) := by decide +kernel
theorem dX8_bestToAsk_28 : decode cX8_bestToAsk 28 = .ok (.iload 4, 2) := by decide +kernel
theorem dX8_bestToAsk_30 : decode cX8_bestToAsk 30 = .ok (.ishl, 1) := by decide +kernel
theorem dX8_bestToAsk_31 : decode cX8_bestToAsk 31 = .ok (.iand, 1) := by decide +kernel
theorem dX8_bestToAsk_32 : decode cX8_bestToAsk 32 = .ok (.istore 5, 2) := by decide +kernel
theorem dX8_bestToAsk_34 : decode cX8_bestToAsk 34 = .ok (.iload_n 1, 1) := by decide +kernel
theorem dX8_bestToAsk_35 : decode cX8_bestToAsk 35 = .ok (.aload_n 0, 1) := by decide +kernel
theorem dX8_bestToAsk_36 : decode cX8_bestToAsk 36 = .ok (.getfield 33, 3) := by decide +kernel
theorem dX8_bestToAsk_39 : decode cX8_bestToAsk 39 = .ok (.iload 4, 2) := by decide +kernel
theorem dX8_bestToAsk_41 : decode cX8_bestToAsk 41 = .ok (.iaload, 1) := by decide +kernel
theorem dX8_bestToAsk_42 : decode cX8_bestToAsk 42 = .ok (.iand, 1) := by decide +kernel
theorem dX8_bestToAsk_43 : decode cX8_bestToAsk 43 = .ok (.invokestatic 101, 3) := by decide +kernel
theorem dX8_bestToAsk_46 : decode cX8_bestToAsk 46 = .ok (.istore 6, 2) := by decide +kernel
theorem dX8_bestToAsk_48 : decode cX8_bestToAsk 48 = .ok (.iload_n 1, 1) := by decide +kernel
theorem dX8_bestToAsk_49 : decode cX8_bestToAsk 49 = .ok (.aload_n 0, 1) := by decide +kernel
theorem dX8_bestToAsk_50 : decode cX8_bestToAsk 50 = .ok (.getfield 33, 3) := by decide +kernel
theorem dX8_bestToAsk_53 : decode cX8_bestToAsk 53 = .ok (.iload 4, 2) := by decide +kernel
theorem dX8_bestToAsk_55 : decode cX8_bestToAsk 55 = .ok (.iaload, 1) := by decide +kernel
theorem dX8_bestToAsk_56 : decode cX8_bestToAsk 56 = .ok (.iconst (-1), 1) := by decide +kernel
theorem dX8_bestToAsk_57 : decode cX8_bestToAsk 57 = .ok (.ixor, 1) := by decide +kernel
theorem dX8_bestToAsk_58 : decode cX8_bestToAsk 58 = .ok (.iand, 1) := by decide +kernel
theorem dX8_bestToAsk_59 : decode cX8_bestToAsk 59 = .ok (.iload 5, 2) := by decide +kernel
theorem dX8_bestToAsk_61 : decode cX8_bestToAsk 61 = .ok (.iconst (-1), 1) := by decide +kernel
theorem dX8_bestToAsk_62 : decode cX8_bestToAsk 62 = .ok (.ixor, 1) := by decide +kernel
theorem dX8_bestToAsk_63 : decode cX8_bestToAsk 63 = .ok (.iand, 1) := by decide +kernel
theorem dX8_bestToAsk_64 : decode cX8_bestToAsk 64 = .ok (.invokestatic 101, 3) := by decide +kernel
theorem dX8_bestToAsk_67 : decode cX8_bestToAsk 67 = .ok (.istore 7, 2) := by decide +kernel
theorem dX8_bestToAsk_69 : decode cX8_bestToAsk 69 = .ok (.iload 6, 2) := by decide +kernel
theorem dX8_bestToAsk_71 : decode cX8_bestToAsk 71 = .ok (.iload 7, 2) := by decide +kernel
theorem dX8_bestToAsk_73 : decode cX8_bestToAsk 73 = .ok (.invokestatic 183, 3) := by decide +kernel
theorem dX8_bestToAsk_76 : decode cX8_bestToAsk 76 = .ok (.iload 5, 2) := by decide +kernel
theorem dX8_bestToAsk_78 : decode cX8_bestToAsk 78 = .ok (.invokestatic 101, 3) := by decide +kernel
theorem dX8_bestToAsk_81 : decode cX8_bestToAsk 81 = .ok (.invokestatic 183, 3) := by decide +kernel
theorem dX8_bestToAsk_84 : decode cX8_bestToAsk 84 = .ok (.istore 8, 2) := by decide +kernel
theorem dX8_bestToAsk_86 : decode cX8_bestToAsk 86 = .ok (.iload_n 2, 1) := by decide +kernel
theorem dX8_bestToAsk_87 : decode cX8_bestToAsk 87 = .ok (.iconst (-1), 1) := by decide +kernel
theorem dX8_bestToAsk_88 : decode cX8_bestToAsk 88 = .ok (.if_icmp .eq 9, 3) := by decide +kernel
theorem dX8_bestToAsk_91 : decode cX8_bestToAsk 91 = .ok (.iload 8, 2) := by decide +kernel
theorem dX8_bestToAsk_93 : decode cX8_bestToAsk 93 = .ok (.iload_n 3, 1) := by decide +kernel
theorem dX8_bestToAsk_94 : decode cX8_bestToAsk 94 = .ok (.if_icmp .ge 9, 3) := by decide +kernel
theorem dX8_bestToAsk_97 : decode cX8_bestToAsk 97 = .ok (.iload 4, 2) := by decide +kernel
theorem dX8_bestToAsk_99 : decode cX8_bestToAsk 99 = .ok (.istore_n 2, 1) := by decide +kernel
theorem dX8_bestToAsk_100 : decode cX8_bestToAsk 100 = .ok (.iload 8, 2) := by decide +kernel
theorem dX8_bestToAsk_102 : decode cX8_bestToAsk 102 = .ok (.istore_n 3, 1) := by decide +kernel
theorem dX8_bestToAsk_103 : decode cX8_bestToAsk 103 = .ok (.iinc 4 1, 3) := by decide +kernel
theorem dX8_bestToAsk_106 : decode cX8_bestToAsk 106 = .ok (.goto (-99), 3) := by decide +kernel
theorem dX8_bestToAsk_109 : decode cX8_bestToAsk 109 = .ok (.iload_n 2, 1) := by decide +kernel
theorem dX8_bestToAsk_110 : decode cX8_bestToAsk 110 = .ok (.ireturn, 1) := by decide +kernel
theorem dX9_init_0 : decode cX9_init 0 = .ok (.aload_n 0, 1) := by decide +kernel
theorem dX9_init_1 : decode cX9_init 1 = .ok (.invokespecial 1, 3) := by decide +kernel
theorem dX9_init_4 : decode cX9_init 4 = .ok (.aload_n 0, 1) := by decide +kernel
theorem dX9_init_5 : decode cX9_init 5 = .ok (.new 7, 3) := by decide +kernel
theorem dX9_init_8 : decode cX9_init 8 = .ok (.dup, 1) := by decide +kernel
theorem dX9_init_9 : decode cX9_init 9 = .ok (.invokespecial 9, 3) := by decide +kernel
theorem dX9_init_12 : decode cX9_init 12 = .ok (.putfield 10, 3) := by decide +kernel
theorem dX9_init_15 : decode cX9_init 15 = .ok (.aload_n 0, 1) := by decide +kernel
theorem dX9_init_16 : decode cX9_init 16 = .ok (.new 16, 3) := by decide +kernel
theorem dX9_init_19 : decode cX9_init 19 = .ok (.dup, 1) := by decide +kernel
theorem dX9_init_20 : decode cX9_init 20 = .ok (.aload_n 0, 1) := by decide +kernel
theorem dX9_init_21 : decode cX9_init 21 = .ok (.getfield 10, 3) := by decide +kernel
theorem dX9_init_24 : decode cX9_init 24 = .ok (.invokespecial 18, 3) := by decide +kernel
theorem dX9_init_27 : decode cX9_init 27 = .ok (.putfield 21, 3) := by decide +kernel
theorem dX9_init_30 : decode cX9_init 30 = .ok (.aload_n 0, 1) := by decide +kernel
theorem dX9_init_31 : decode cX9_init 31 = .ok (.new 25, 3) := by decide +kernel
theorem dX9_init_34 : decode cX9_init 34 = .ok (.dup, 1) := by decide +kernel
theorem dX9_init_35 : decode cX9_init 35 = .ok (.invokespecial 27, 3) := by decide +kernel
theorem dX9_init_38 : decode cX9_init 38 = .ok (.putfield 28, 3) := by decide +kernel
theorem dX9_init_41 : decode cX9_init 41 = .ok (.return_, 1) := by decide +kernel
theorem dX9_copyFrom_0 : decode cX9_copyFrom 0 = .ok (.aload_n 0, 1) := by decide +kernel
theorem dX9_copyFrom_1 : decode cX9_copyFrom 1 = .ok (.getfield 10, 3) := by decide +kernel
theorem dX9_copyFrom_4 : decode cX9_copyFrom 4 = .ok (.aload_n 1, 1) := by decide +kernel
theorem dX9_copyFrom_5 : decode cX9_copyFrom 5 = .ok (.getfield 10, 3) := by decide +kernel
theorem dX9_copyFrom_8 : decode cX9_copyFrom 8 = .ok (.invokevirtual 32, 3) := by decide +kernel
theorem dX9_copyFrom_11 : decode cX9_copyFrom 11 = .ok (.aload_n 0, 1) := by decide +kernel
theorem dX9_copyFrom_12 : decode cX9_copyFrom 12 = .ok (.getfield 21, 3) := by decide +kernel
theorem dX9_copyFrom_15 : decode cX9_copyFrom 15 = .ok (.aload_n 1, 1) := by decide +kernel
theorem dX9_copyFrom_16 : decode cX9_copyFrom 16 = .ok (.getfield 21, 3) := by decide +kernel
theorem dX9_copyFrom_19 : decode cX9_copyFrom 19 = .ok (.invokevirtual 35, 3) := by decide +kernel
theorem dX9_copyFrom_22 : decode cX9_copyFrom 22 = .ok (.aload_n 0, 1) := by decide +kernel
theorem dX9_copyFrom_23 : decode cX9_copyFrom 23 = .ok (.getfield 28, 3) := by decide +kernel
theorem dX9_copyFrom_26 : decode cX9_copyFrom 26 = .ok (.aload_n 1, 1) := by decide +kernel
theorem dX9_copyFrom_27 : decode cX9_copyFrom 27 = .ok (.getfield 28, 3) := by decide +kernel
theorem dX9_copyFrom_30 : decode cX9_copyFrom 30 = .ok (.invokevirtual 38, 3) := by decide +kernel
theorem dX9_copyFrom_33 : decode cX9_copyFrom 33 = .ok (.return_, 1) := by decide +kernel
theorem dX10_init_0 : decode cX10_init 0 = .ok (.aload_n 0, 1) := by decide +kernel
theorem dX10_init_1 : decode cX10_init 1 = .ok (.invokespecial 3, 3) := by decide +kernel
theorem dX10_init_4 : decode cX10_init 4 = .ok (.aload_n 0, 1) := by decide +kernel
theorem dX10_init_5 : decode cX10_init 5 = .ok (.invokestatic 9, 3) := by decide +kernel
theorem dX10_init_8 : decode cX10_init 8 = .ok (.putfield 15, 3) := by decide +kernel
theorem dX10_init_11 : decode cX10_init 11 = .ok (.aload_n 0, 1) := by decide +kernel
theorem dX10_init_12 : decode cX10_init 12 = .ok (.sipush 940, 3) := by decide +kernel
theorem dX10_init_15 : decode cX10_init 15 = .ok (.newarray .byte, 2) := by decide +kernel
theorem dX10_init_17 : decode cX10_init 17 = .ok (.putfield 19, 3) := by decide +kernel
theorem dX10_init_20 : decode cX10_init 20 = .ok (.return_, 1) := by decide +kernel
theorem dX10_codesOfWords_0 : decode cX10_codesOfWords 0 = .ok (.bipush 29, 2) := by decide +kernel
theorem dX10_codesOfWords_2 : decode cX10_codesOfWords 2 = .ok (.newarray .long, 2) := by decide +kernel
theorem dX10_codesOfWords_4 : decode cX10_codesOfWords 4 = .ok (.astore_n 0, 1) := by decide +kernel
theorem dX10_codesOfWords_5 : decode cX10_codesOfWords 5 = .ok (.aload_n 0, 1) := by decide +kernel
theorem dX10_codesOfWords_6 : decode cX10_codesOfWords 6 = .ok (.iconst 0, 1) := by decide +kernel
theorem dX10_codesOfWords_7 : decode cX10_codesOfWords 7 = .ok (.ldc 23, 2) := by decide +kernel
theorem dX10_codesOfWords_9 : decode cX10_codesOfWords 9 = .ok (.invokestatic 25, 3) := by decide +kernel
theorem dX10_codesOfWords_12 : decode cX10_codesOfWords 12 = .ok (.istore_n 1, 1) := by decide +kernel
theorem dX10_codesOfWords_13 : decode cX10_codesOfWords 13 = .ok (.aload_n 0, 1) := by decide +kernel
theorem dX10_codesOfWords_14 : decode cX10_codesOfWords 14 = .ok (.iload_n 1, 1) := by decide +kernel
theorem dX10_codesOfWords_15 : decode cX10_codesOfWords 15 = .ok (.ldc 29, 2) := by decide +kernel
theorem dX10_codesOfWords_17 : decode cX10_codesOfWords 17 = .ok (.invokestatic 25, 3) := by decide +kernel
theorem dX10_codesOfWords_20 : decode cX10_codesOfWords 20 = .ok (.istore_n 1, 1) := by decide +kernel
theorem dX10_codesOfWords_21 : decode cX10_codesOfWords 21 = .ok (.aload_n 0, 1) := by decide +kernel
theorem dX10_codesOfWords_22 : decode cX10_codesOfWords 22 = .ok (.iload_n 1, 1) := by decide +kernel
theorem dX10_codesOfWords_23 : decode cX10_codesOfWords 23 = .ok (.ldc 31, 2) := by decide +kernel
theorem dX10_codesOfWords_25 : decode cX10_codesOfWords 25 = .ok (.invokestatic 25, 3) := by decide +kernel
theorem dX10_codesOfWords_28 : decode cX10_codesOfWords 28 = .ok (.pop, 1) := by decide +kernel
theorem dX10_codesOfWords_29 : decode cX10_codesOfWords 29 = .ok (.aload_n 0, 1) := by decide +kernel
theorem dX10_codesOfWords_30 : decode cX10_codesOfWords 30 = .ok (.areturn, 1) := by decide +kernel
theorem dX10_fillCodes_0 : decode cX10_fillCodes 0 = .ok (.iload_n 1, 1) := by decide +kernel
theorem dX10_fillCodes_1 : decode cX10_fillCodes 1 = .ok (.istore_n 3, 1) := by decide +kernel
theorem dX10_fillCodes_2 : decode cX10_fillCodes 2 = .ok (.lconst 0, 1) := by decide +kernel
theorem dX10_fillCodes_3 : decode cX10_fillCodes 3 = .ok (.lstore 4, 2) := by decide +kernel
theorem dX10_fillCodes_5 : decode cX10_fillCodes 5 = .ok (.iconst 0, 1) := by decide +kernel
theorem dX10_fillCodes_6 : decode cX10_fillCodes 6 = .ok (.istore 6, 2) := by decide +kernel
theorem dX10_fillCodes_8 : decode cX10_fillCodes 8 = .ok (.iload 6, 2) := by decide +kernel
theorem dX10_fillCodes_10 : decode cX10_fillCodes 10 = .ok (.aload_n 2, 1) := by decide +kernel
theorem dX10_fillCodes_11 : decode cX10_fillCodes 11 = .ok (.invokevirtual 33, 3) := by decide +kernel
theorem dX10_fillCodes_14 : decode cX10_fillCodes 14 = .ok (.if_icmp .gt 66, 3) := by decide +kernel
theorem dX10_fillCodes_17 : decode cX10_fillCodes 17 = .ok (.iload_n 3, 1) := by decide +kernel
theorem dX10_fillCodes_18 : decode cX10_fillCodes 18 = .ok (.aload_n 0, 1) := by decide +kernel
theorem dX10_fillCodes_19 : decode cX10_fillCodes 19 = .ok (.arraylength, 1) := by decide +kernel
theorem dX10_fillCodes_20 : decode cX10_fillCodes 20 = .ok (.if_icmp .ge 60, 3) := by decide +kernel
theorem dX10_fillCodes_23 : decode cX10_fillCodes 23 = .ok (.iload 6, 2) := by decide +kernel
theorem dX10_fillCodes_25 : decode cX10_fillCodes 25 = .ok (.aload_n 2, 1) := by decide +kernel
theorem dX10_fillCodes_26 : decode cX10_fillCodes 26 = .ok (.invokevirtual 33, 3) := by decide +kernel
theorem dX10_fillCodes_29 : decode cX10_fillCodes 29 = .ok (.if_icmp .eq 14, 3) := by decide +kernel
theorem dX10_fillCodes_32 : decode cX10_fillCodes 32 = .ok (.aload_n 2, 1) := by decide +kernel
theorem dX10_fillCodes_33 : decode cX10_fillCodes 33 = .ok (.iload 6, 2) := by decide +kernel
theorem dX10_fillCodes_35 : decode cX10_fillCodes 35 = .ok (.invokevirtual 39, 3) := by decide +kernel
theorem dX10_fillCodes_38 : decode cX10_fillCodes 38 = .ok (.bipush 32, 2) := by decide +kernel
theorem dX10_fillCodes_40 : decode cX10_fillCodes 40 = .ok (.if_icmp .ne 17, 3) := by decide +kernel
theorem dX10_fillCodes_43 : decode cX10_fillCodes 43 = .ok (.aload_n 0, 1) := by decide +kernel
theorem dX10_fillCodes_44 : decode cX10_fillCodes 44 = .ok (.iload_n 3, 1) := by decide +kernel
theorem dX10_fillCodes_45 : decode cX10_fillCodes 45 = .ok (.lload 4, 2) := by decide +kernel
theorem dX10_fillCodes_47 : decode cX10_fillCodes 47 = .ok (.lastore, 1) := by decide +kernel
theorem dX10_fillCodes_48 : decode cX10_fillCodes 48 = .ok (.iinc 3 1, 3) := by decide +kernel
theorem dX10_fillCodes_51 : decode cX10_fillCodes 51 = .ok (.lconst 0, 1) := by decide +kernel
theorem dX10_fillCodes_52 : decode cX10_fillCodes 52 = .ok (.lstore 4, 2) := by decide +kernel
theorem dX10_fillCodes_54 : decode cX10_fillCodes 54 = .ok (.goto 20, 3) := by decide +kernel
theorem dX10_fillCodes_57 : decode cX10_fillCodes 57 = .ok (.lload 4, 2) := by decide +kernel
theorem dX10_fillCodes_59 : decode cX10_fillCodes 59 = .ok (.iconst 5, 1) := by decide +kernel
theorem dX10_fillCodes_60 : decode cX10_fillCodes 60 = .ok (.lshl, 1) := by decide +kernel
theorem dX10_fillCodes_61 : decode cX10_fillCodes 61 = .ok (.aload_n 2, 1) := by decide +kernel
theorem dX10_fillCodes_62 : decode cX10_fillCodes 62 = .ok (.iload 6, 2) := by decide +kernel
theorem dX10_fillCodes_64 : decode cX10_fillCodes 64 = .ok (.invokevirtual 39, 3) := by decide +kernel
theorem dX10_fillCodes_67 : decode cX10_fillCodes 67 = .ok (.bipush 96, 2) := by decide +kernel
theorem dX10_fillCodes_69 : decode cX10_fillCodes 69 = .ok (.isub, 1) := by decide +kernel
theorem dX10_fillCodes_70 : decode cX10_fillCodes 70 = .ok (.i2l, 1) := by decide +kernel
theorem dX10_fillCodes_71 : decode cX10_fillCodes 71 = .ok (.lor, 1) := by decide +kernel
theorem dX10_fillCodes_72 : decode cX10_fillCodes 72 = .ok (.lstore 4, 2) := by decide +kernel
theorem dX10_fillCodes_74 : decode cX10_fillCodes 74 = .ok (.iinc 6 1, 3) := by decide +kernel
theorem dX10_fillCodes_77 : decode cX10_fillCodes 77 = .ok (.goto (-69), 3) := by decide +kernel
theorem dX10_fillCodes_80 : decode cX10_fillCodes 80 = .ok (.iload_n 3, 1) := by decide +kernel
theorem dX10_fillCodes_81 : decode cX10_fillCodes 81 = .ok (.ireturn, 1) := by decide +kernel
theorem dX10_addFour_0 : decode cX10_addFour 0 = .ok (.bipush 24, 2) := by decide +kernel
theorem dX10_addFour_2 : decode cX10_addFour 2 = .ok (.istore_n 2, 1) := by decide +kernel
theorem dX10_addFour_3 : decode cX10_addFour 3 = .ok (.iload_n 2, 1) := by decide +kernel
theorem dX10_addFour_4 : decode cX10_addFour 4 = .ok (.ifCond .lt 42, 3) := by decide +kernel
theorem dX10_addFour_7 : decode cX10_addFour 7 = .ok (.aload_n 0, 1) := by decide +kernel
theorem dX10_addFour_8 : decode cX10_addFour 8 = .ok (.getfield 43, 3) := by decide +kernel
theorem dX10_addFour_11 : decode cX10_addFour 11 = .ok (.sipush 940, 3) := by decide +kernel
theorem dX10_addFour_14 : decode cX10_addFour 14 = .ok (.if_icmp .ge 32, 3) := by decide +kernel
theorem dX10_addFour_17 : decode cX10_addFour 17 = .ok (.aload_n 0, 1) := by decide +kernel
theorem dX10_addFour_18 : decode cX10_addFour 18 = .ok (.getfield 19, 3) := by decide +kernel
theorem dX10_addFour_21 : decode cX10_addFour 21 = .ok (.aload_n 0, 1) := by decide +kernel
theorem dX10_addFour_22 : decode cX10_addFour 22 = .ok (.getfield 43, 3) := by decide +kernel
theorem dX10_addFour_25 : decode cX10_addFour 25 = .ok (.iload_n 1, 1) := by decide +kernel
theorem dX10_addFour_26 : decode cX10_addFour 26 = .ok (.iload_n 2, 1) := by decide +kernel
theorem dX10_addFour_27 : decode cX10_addFour 27 = .ok (.ishr, 1) := by decide +kernel
theorem dX10_addFour_28 : decode cX10_addFour 28 = .ok (.i2b, 1) := by decide +kernel
theorem dX10_addFour_29 : decode cX10_addFour 29 = .ok (.bastore, 1) := by decide +kernel
theorem dX10_addFour_30 : decode cX10_addFour 30 = .ok (.aload_n 0, 1) := by decide +kernel
theorem dX10_addFour_31 : decode cX10_addFour 31 = .ok (.dup, 1) := by decide +kernel
theorem dX10_addFour_32 : decode cX10_addFour 32 = .ok (.getfield 43, 3) := by decide +kernel
theorem dX10_addFour_35 : decode cX10_addFour 35 = .ok (.iconst 1, 1) := by decide +kernel
theorem dX10_addFour_36 : decode cX10_addFour 36 = .ok (.iadd, 1) := by decide +kernel
theorem dX10_addFour_37 : decode cX10_addFour 37 = .ok (.putfield 43, 3) := by decide +kernel
theorem dX10_addFour_40 : decode cX10_addFour 40 = .ok (.iinc 2 (-8), 3) := by decide +kernel
theorem dX10_addFour_43 : decode cX10_addFour 43 = .ok (.goto (-40), 3) := by decide +kernel
theorem dX10_addFour_46 : decode cX10_addFour 46 = .ok (.return_, 1) := by decide +kernel
theorem dX10_byteOf_0 : decode cX10_byteOf 0 = .ok (.iload_n 1, 1) := by decide +kernel
theorem dX10_byteOf_1 : decode cX10_byteOf 1 = .ok (.ifCond .lt 31, 3) := by decide +kernel
theorem dX10_byteOf_4 : decode cX10_byteOf 4 = .ok (.iload_n 1, 1) := by decide +kernel
theorem dX10_byteOf_5 : decode cX10_byteOf 5 = .ok (.aload_n 0, 1) := by decide +kernel
theorem dX10_byteOf_6 : decode cX10_byteOf 6 = .ok (.getfield 43, 3) := by decide +kernel
theorem dX10_byteOf_9 : decode cX10_byteOf 9 = .ok (.if_icmp .ge 23, 3) := by decide +kernel
theorem dX10_byteOf_12 : decode cX10_byteOf 12 = .ok (.iload_n 1, 1) := by decide +kernel
theorem dX10_byteOf_13 : decode cX10_byteOf 13 = .ok (.sipush 940, 3) := by decide +kernel
theorem dX10_byteOf_16 : decode cX10_byteOf 16 = .ok (.if_icmp .ge 16, 3) := by decide +kernel
theorem dX10_byteOf_19 : decode cX10_byteOf 19 = .ok (.aload_n 0, 1) := by decide +kernel
theorem dX10_byteOf_20 : decode cX10_byteOf 20 = .ok (.getfield 19, 3) := by decide +kernel
theorem dX10_byteOf_23 : decode cX10_byteOf 23 = .ok (.iload_n 1, 1) := by decide +kernel
theorem dX10_byteOf_24 : decode cX10_byteOf 24 = .ok (.baload, 1) := by decide +kernel
theorem dX10_byteOf_25 : decode cX10_byteOf 25 = .ok (.sipush 255, 3) := by decide +kernel
theorem dX10_byteOf_28 : decode cX10_byteOf 28 = .ok (.iand, 1) := by decide +kernel
theorem dX10_byteOf_29 : decode cX10_byteOf 29 = .ok (.goto 4, 3) := by decide +kernel
theorem dX10_byteOf_32 : decode cX10_byteOf 32 = .ok (.iconst (-1), 1) := by decide +kernel
theorem dX10_byteOf_33 : decode cX10_byteOf 33 = .ok (.ireturn, 1) := by decide +kernel
theorem dX10_startReading_0 : decode cX10_startReading 0 = .ok (.aload_n 0, 1) := by decide +kernel
theorem dX10_startReading_1 : decode cX10_startReading 1 = .ok (.iload_n 1, 1) := by decide +kernel
theorem dX10_startReading_2 : decode cX10_startReading 2 = .ok (.putfield 47, 3) := by decide +kernel
theorem dX10_startReading_5 : decode cX10_startReading 5 = .ok (.aload_n 0, 1) := by decide +kernel
theorem dX10_startReading_6 : decode cX10_startReading 6 = .ok (.iconst 0, 1) := by decide +kernel
theorem dX10_startReading_7 : decode cX10_startReading 7 = .ok (.putfield 50, 3) := by decide +kernel
theorem dX10_startReading_10 : decode cX10_startReading 10 = .ok (.aload_n 0, 1) := by decide +kernel
theorem dX10_startReading_11 : decode cX10_startReading 11 = .ok (.iconst 0, 1) := by decide +kernel
theorem dX10_startReading_12 : decode cX10_startReading 12 = .ok (.putfield 53, 3) := by decide +kernel
theorem dX10_startReading_15 : decode cX10_startReading 15 = .ok (.aload_n 0, 1) := by decide +kernel
theorem dX10_startReading_16 : decode cX10_startReading 16 = .ok (.iconst 0, 1) := by decide +kernel
theorem dX10_startReading_17 : decode cX10_startReading 17 = .ok (.putfield 56, 3) := by decide +kernel
theorem dX10_startReading_20 : decode cX10_startReading 20 = .ok (.aload_n 0, 1) := by decide +kernel
theorem dX10_startReading_21 : decode cX10_startReading 21 = .ok (.invokevirtual 59, 3) := by decide +kernel
theorem dX10_startReading_24 : decode cX10_startReading 24 = .ok (.return_, 1) := by decide +kernel
theorem dX10_take_0 : decode cX10_take 0 = .ok (.aload_n 0, 1) := by decide +kernel
theorem dX10_take_1 : decode cX10_take 1 = .ok (.getfield 50, 3) := by decide +kernel
theorem dX10_take_4 : decode cX10_take 4 = .ok (.aload_n 0, 1) := by decide +kernel
theorem dX10_take_5 : decode cX10_take 5 = .ok (.getfield 43, 3) := by decide +kernel
theorem dX10_take_8 : decode cX10_take 8 = .ok (.if_icmp .ge 30, 3) := by decide +kernel
theorem dX10_take_11 : decode cX10_take 11 = .ok (.aload_n 0, 1) := by decide +kernel
theorem dX10_take_12 : decode cX10_take 12 = .ok (.aload_n 0, 1) := by decide +kernel
theorem dX10_take_13 : decode cX10_take 13 = .ok (.getfield 50, 3) := by decide +kernel
theorem dX10_take_16 : decode cX10_take 16 = .ok (.invokevirtual 62, 3) := by decide +kernel
theorem dX10_take_19 : decode cX10_take 19 = .ok (.invokestatic 66, 3) := by decide +kernel
theorem dX10_take_22 : decode cX10_take 22 = .ok (.ifCond .eq 16, 3) := by decide +kernel
theorem dX10_take_25 : decode cX10_take 25 = .ok (.aload_n 0, 1) := by decide +kernel
theorem dX10_take_26 : decode cX10_take 26 = .ok (.dup, 1) := by decide +kernel
theorem dX10_take_27 : decode cX10_take 27 = .ok (.getfield 50, 3) := by decide +kernel
theorem dX10_take_30 : decode cX10_take 30 = .ok (.iconst 1, 1) := by decide +kernel
theorem dX10_take_31 : decode cX10_take 31 = .ok (.iadd, 1) := by decide +kernel
theorem dX10_take_32 : decode cX10_take 32 = .ok (.putfield 50, 3) := by decide +kernel
theorem dX10_take_35 : decode cX10_take 35 = .ok (.goto (-35), 3) := by decide +kernel
theorem dX10_take_38 : decode cX10_take 38 = .ok (.aload_n 0, 1) := by decide +kernel
theorem dX10_take_39 : decode cX10_take 39 = .ok (.aload_n 0, 1) := by decide +kernel
theorem dX10_take_40 : decode cX10_take 40 = .ok (.getfield 50, 3) := by decide +kernel
theorem dX10_take_43 : decode cX10_take 43 = .ok (.putfield 70, 3) := by decide +kernel
theorem dX10_take_46 : decode cX10_take 46 = .ok (.aload_n 0, 1) := by decide +kernel
theorem dX10_take_47 : decode cX10_take 47 = .ok (.aload_n 0, 1) := by decide +kernel
theorem dX10_take_48 : decode cX10_take 48 = .ok (.aload_n 0, 1) := by decide +kernel
theorem dX10_take_49 : decode cX10_take 49 = .ok (.getfield 50, 3) := by decide +kernel
theorem dX10_take_52 : decode cX10_take 52 = .ok (.invokevirtual 62, 3) := by decide +kernel
theorem dX10_take_55 : decode cX10_take 55 = .ok (.putfield 73, 3) := by decide +kernel
theorem dX10_take_58 : decode cX10_take 58 = .ok (.aload_n 0, 1) := by decide +kernel
theorem dX10_take_59 : decode cX10_take 59 = .ok (.getfield 43, 3) := by decide +kernel
theorem dX10_take_62 : decode cX10_take 62 = .ok (.aload_n 0, 1) := by decide +kernel
theorem dX10_take_63 : decode cX10_take 63 = .ok (.getfield 47, 3) := by decide +kernel
theorem dX10_take_66 : decode cX10_take 66 = .ok (.if_icmp .le 30, 3) := by decide +kernel
theorem dX10_take_69 : decode cX10_take 69 = .ok (.aload_n 0, 1) := by decide +kernel
theorem dX10_take_70 : decode cX10_take 70 = .ok (.getfield 50, 3) := by decide +kernel
theorem dX10_take_73 : decode cX10_take 73 = .ok (.aload_n 0, 1) := by decide +kernel
theorem dX10_take_74 : decode cX10_take 74 = .ok (.getfield 47, 3) := by decide +kernel
theorem dX10_take_77 : decode cX10_take 77 = .ok (.if_icmp .lt 19, 3) := by decide +kernel
theorem dX10_take_80 : decode cX10_take 80 = .ok (.aload_n 0, 1) := by decide +kernel
theorem dX10_take_81 : decode cX10_take 81 = .ok (.aload_n 0, 1) := by decide +kernel
theorem dX10_take_82 : decode cX10_take 82 = .ok (.getfield 47, 3) := by decide +kernel
theorem dX10_take_85 : decode cX10_take 85 = .ok (.putfield 70, 3) := by decide +kernel
theorem dX10_take_88 : decode cX10_take 88 = .ok (.aload_n 0, 1) := by decide +kernel
theorem dX10_take_89 : decode cX10_take 89 = .ok (.iconst 5, 1) := by decide +kernel
theorem dX10_take_90 : decode cX10_take 90 = .ok (.putfield 76, 3) := by decide +kernel
theorem dX10_take_93 : decode cX10_take 93 = .ok (.goto 58, 3) := by decide +kernel
theorem dX10_take_96 : decode cX10_take 96 = .ok (.aload_n 0, 1) := by decide +kernel
theorem dX10_take_97 : decode cX10_take 97 = .ok (.getfield 50, 3) := by decide +kernel
theorem dX10_take_100 : decode cX10_take 100 = .ok (.aload_n 0, 1) := by decide +kernel
theorem dX10_take_101 : decode cX10_take 101 = .ok (.getfield 43, 3) := by decide +kernel
theorem dX10_take_104 : decode cX10_take 104 = .ok (.if_icmp .lt 11, 3) := by decide +kernel
theorem dX10_take_107 : decode cX10_take 107 = .ok (.aload_n 0, 1) := by decide +kernel
theorem dX10_take_108 : decode cX10_take 108 = .ok (.iconst 0, 1) := by decide +kernel
theorem dX10_take_109 : decode cX10_take 109 = .ok (.putfield 76, 3) := by decide +kernel
theorem dX10_take_112 : decode cX10_take 112 = .ok (.goto 39, 3) := by decide +kernel
theorem dX10_take_115 : decode cX10_take 115 = .ok (.aload_n 0, 1) := by decide +kernel
theorem dX10_take_116 : decode cX10_take 116 = .ok (.getfield 73, 3) := by decide +kernel
theorem dX10_take_119 : decode cX10_take 119 = .ok (.invokestatic 79, 3) := by decide +kernel
theorem dX10_take_122 : decode cX10_take 122 = .ok (.ifCond .eq 21, 3) := by decide +kernel
theorem dX10_take_125 : decode cX10_take 125 = .ok (.aload_n 0, 1) := by decide +kernel
theorem dX10_take_126 : decode cX10_take 126 = .ok (.iconst 4, 1) := by decide +kernel
theorem dX10_take_127 : decode cX10_take 127 = .ok (.putfield 76, 3) := by decide +kernel
theorem dX10_take_130 : decode cX10_take 130 = .ok (.aload_n 0, 1) := by decide +kernel
theorem dX10_take_131 : decode cX10_take 131 = .ok (.dup, 1) := by decide +kernel
theorem dX10_take_132 : decode cX10_take 132 = .ok (.getfield 50, 3) := by decide +kernel
theorem dX10_take_135 : decode cX10_take 135 = .ok (.iconst 1, 1) := by decide +kernel
theorem dX10_take_136 : decode cX10_take 136 = .ok (.iadd, 1) := by decide +kernel
theorem dX10_take_137 : decode cX10_take 137 = .ok (.putfield 50, 3) := by decide +kernel
theorem dX10_take_140 : decode cX10_take 140 = .ok (.goto 11, 3) := by decide +kernel
theorem dX10_take_143 : decode cX10_take 143 = .ok (.aload_n 0, 1) := by decide +kernel
theorem dX10_take_144 : decode cX10_take 144 = .ok (.invokevirtual 82, 3) := by decide +kernel
theorem dX10_take_147 : decode cX10_take 147 = .ok (.aload_n 0, 1) := by decide +kernel
theorem dX10_take_148 : decode cX10_take 148 = .ok (.invokevirtual 85, 3) := by decide +kernel
theorem dX10_take_151 : decode cX10_take 151 = .ok (.return_, 1) := by decide +kernel
theorem dX10_takeRun_0 : decode cX10_takeRun 0 = .ok (.iconst 0, 1) := by decide +kernel
theorem dX10_takeRun_1 : decode cX10_takeRun 1 = .ok (.istore_n 1, 1) := by decide +kernel
theorem dX10_takeRun_2 : decode cX10_takeRun 2 = .ok (.iconst 0, 1) := by decide +kernel
theorem dX10_takeRun_3 : decode cX10_takeRun 3 = .ok (.istore_n 2, 1) := by decide +kernel
theorem dX10_takeRun_4 : decode cX10_takeRun 4 = .ok (.aload_n 0, 1) := by decide +kernel
theorem dX10_takeRun_5 : decode cX10_takeRun 5 = .ok (.lconst 0, 1) := by decide +kernel
theorem dX10_takeRun_6 : decode cX10_takeRun 6 = .ok (.putfield 88, 3) := by decide +kernel
theorem dX10_takeRun_9 : decode cX10_takeRun 9 = .ok (.aload_n 0, 1) := by decide +kernel
theorem dX10_takeRun_10 : decode cX10_takeRun 10 = .ok (.iconst 0, 1) := by decide +kernel
theorem dX10_takeRun_11 : decode cX10_takeRun 11 = .ok (.putfield 73, 3) := by decide +kernel
theorem dX10_takeRun_14 : decode cX10_takeRun 14 = .ok (.aload_n 0, 1) := by decide +kernel
theorem dX10_takeRun_15 : decode cX10_takeRun 15 = .ok (.getfield 50, 3) := by decide +kernel
theorem dX10_takeRun_18 : decode cX10_takeRun 18 = .ok (.aload_n 0, 1) := by decide +kernel
theorem dX10_takeRun_19 : decode cX10_takeRun 19 = .ok (.getfield 43, 3) := by decide +kernel
theorem dX10_takeRun_22 : decode cX10_takeRun 22 = .ok (.if_icmp .ge 101, 3) := by decide +kernel
theorem dX10_takeRun_25 : decode cX10_takeRun 25 = .ok (.aload_n 0, 1) := by decide +kernel
theorem dX10_takeRun_26 : decode cX10_takeRun 26 = .ok (.getfield 50, 3) := by decide +kernel
theorem dX10_takeRun_29 : decode cX10_takeRun 29 = .ok (.sipush 940, 3) := by decide +kernel
theorem dX10_takeRun_32 : decode cX10_takeRun 32 = .ok (.if_icmp .ge 91, 3) := by decide +kernel
theorem dX10_takeRun_35 : decode cX10_takeRun 35 = .ok (.aload_n 0, 1) := by decide +kernel
theorem dX10_takeRun_36 : decode cX10_takeRun 36 = .ok (.getfield 19, 3) := by decide +kernel
theorem dX10_takeRun_39 : decode cX10_takeRun 39 = .ok (.aload_n 0, 1) := by decide +kernel
theorem dX10_takeRun_40 : decode cX10_takeRun 40 = .ok (.getfield 50, 3) := by decide +kernel
theorem dX10_takeRun_43 : decode cX10_takeRun 43 = .ok (.baload, 1) := by decide +kernel
theorem dX10_takeRun_44 : decode cX10_takeRun 44 = .ok (.istore_n 3, 1) := by decide +kernel
theorem dX10_takeRun_45 : decode cX10_takeRun 45 = .ok (.iload_n 3, 1) := by decide +kernel
theorem dX10_takeRun_46 : decode cX10_takeRun 46 = .ok (.bipush 97, 2) := by decide +kernel
theorem dX10_takeRun_48 : decode cX10_takeRun 48 = .ok (.if_icmp .lt 31, 3) := by decide +kernel
theorem dX10_takeRun_51 : decode cX10_takeRun 51 = .ok (.iload_n 3, 1) := by decide +kernel
theorem dX10_takeRun_52 : decode cX10_takeRun 52 = .ok (.bipush 122, 2) := by decide +kernel
theorem dX10_takeRun_54 : decode cX10_takeRun 54 = .ok (.if_icmp .gt 25, 3) := by decide +kernel
theorem dX10_takeRun_57 : decode cX10_takeRun 57 = .ok (.iinc 1 1, 3) := by decide +kernel
theorem dX10_takeRun_60 : decode cX10_takeRun 60 = .ok (.aload_n 0, 1) := by decide +kernel
theorem dX10_takeRun_61 : decode cX10_takeRun 61 = .ok (.aload_n 0, 1) := by decide +kernel
theorem dX10_takeRun_62 : decode cX10_takeRun 62 = .ok (.getfield 88, 3) := by decide +kernel
theorem dX10_takeRun_65 : decode cX10_takeRun 65 = .ok (.iconst 5, 1) := by decide +kernel
theorem dX10_takeRun_66 : decode cX10_takeRun 66 = .ok (.lshl, 1) := by decide +kernel
theorem dX10_takeRun_67 : decode cX10_takeRun 67 = .ok (.iload_n 3, 1) := by decide +kernel
theorem dX10_takeRun_68 : decode cX10_takeRun 68 = .ok (.bipush 96, 2) := by decide +kernel
theorem dX10_takeRun_70 : decode cX10_takeRun 70 = .ok (.isub, 1) := by decide +kernel
theorem dX10_takeRun_71 : decode cX10_takeRun 71 = .ok (.i2l, 1) := by decide +kernel
theorem dX10_takeRun_72 : decode cX10_takeRun 72 = .ok (.lor, 1) := by decide +kernel
theorem dX10_takeRun_73 : decode cX10_takeRun 73 = .ok (.putfield 88, 3) := by decide +kernel
theorem dX10_takeRun_76 : decode cX10_takeRun 76 = .ok (.goto 34, 3) := by decide +kernel
theorem dX10_takeRun_79 : decode cX10_takeRun 79 = .ok (.iload_n 3, 1) := by decide +kernel
theorem dX10_takeRun_80 : decode cX10_takeRun 80 = .ok (.bipush 48, 2) := by decide +kernel
theorem dX10_takeRun_82 : decode cX10_takeRun 82 = .ok (.if_icmp .lt 41, 3) := by decide +kernel
theorem dX10_takeRun_85 : decode cX10_takeRun 85 = .ok (.iload_n 3, 1) := by decide +kernel
theorem dX10_takeRun_86 : decode cX10_takeRun 86 = .ok (.bipush 57, 2) := by decide +kernel
theorem dX10_takeRun_88 : decode cX10_takeRun 88 = .ok (.if_icmp .gt 35, 3) := by decide +kernel
theorem dX10_takeRun_91 : decode cX10_takeRun 91 = .ok (.iinc 2 1, 3) := by decide +kernel
theorem dX10_takeRun_94 : decode cX10_takeRun 94 = .ok (.aload_n 0, 1) := by decide +kernel
theorem dX10_takeRun_95 : decode cX10_takeRun 95 = .ok (.aload_n 0, 1) := by decide +kernel
theorem dX10_takeRun_96 : decode cX10_takeRun 96 = .ok (.getfield 73, 3) := by decide +kernel
theorem dX10_takeRun_99 : decode cX10_takeRun 99 = .ok (.bipush 10, 2) := by decide +kernel
theorem dX10_takeRun_101 : decode cX10_takeRun 101 = .ok (.imul, 1) := by decide +kernel
theorem dX10_takeRun_102 : decode cX10_takeRun 102 = .ok (.iload_n 3, 1) := by decide +kernel
theorem dX10_takeRun_103 : decode cX10_takeRun 103 = .ok (.iadd, 1) := by decide +kernel
theorem dX10_takeRun_104 : decode cX10_takeRun 104 = .ok (.bipush 48, 2) := by decide +kernel
theorem dX10_takeRun_106 : decode cX10_takeRun 106 = .ok (.isub, 1) := by decide +kernel
theorem dX10_takeRun_107 : decode cX10_takeRun 107 = .ok (.putfield 73, 3) := by decide +kernel
theorem dX10_takeRun_110 : decode cX10_takeRun 110 = .ok (.aload_n 0, 1) := by decide +kernel
theorem dX10_takeRun_111 : decode cX10_takeRun 111 = .ok (.dup, 1) := by decide +kernel
theorem dX10_takeRun_112 : decode cX10_takeRun 112 = .ok (.getfield 50, 3) := by decide +kernel
theorem dX10_takeRun_115 : decode cX10_takeRun 115 = .ok (.iconst 1, 1) := by decide +kernel
theorem dX10_takeRun_116 : decode cX10_takeRun 116 = .ok (.iadd, 1) := by decide +kernel
theorem dX10_takeRun_117 : decode cX10_takeRun 117 = .ok (.putfield 50, 3) := by decide +kernel
theorem dX10_takeRun_120 : decode cX10_takeRun 120 = .ok (.goto (-106), 3) := by decide +kernel
theorem dX10_takeRun_123 : decode cX10_takeRun 123 = .ok (.iload_n 2, 1) := by decide +kernel
theorem dX10_takeRun_124 : decode cX10_takeRun 124 = .ok (.ifCond .ne 22, 3) := by decide +kernel
theorem dX10_takeRun_127 : decode cX10_takeRun 127 = .ok (.iload_n 1, 1) := by decide +kernel
theorem dX10_takeRun_128 : decode cX10_takeRun 128 = .ok (.iconst 1, 1) := by decide +kernel
theorem dX10_takeRun_129 : decode cX10_takeRun 129 = .ok (.if_icmp .lt 17, 3) := by decide +kernel
theorem dX10_takeRun_132 : decode cX10_takeRun 132 = .ok (.iload_n 1, 1) := by decide +kernel
theorem dX10_takeRun_133 : decode cX10_takeRun 133 = .ok (.bipush 8, 2) := by decide +kernel
theorem dX10_takeRun_135 : decode cX10_takeRun 135 = .ok (.if_icmp .gt 11, 3) := by decide +kernel
theorem dX10_takeRun_138 : decode cX10_takeRun 138 = .ok (.aload_n 0, 1) := by decide +kernel
theorem dX10_takeRun_139 : decode cX10_takeRun 139 = .ok (.iconst 2, 1) := by decide +kernel
theorem dX10_takeRun_140 : decode cX10_takeRun 140 = .ok (.putfield 76, 3) := by decide +kernel
theorem dX10_takeRun_143 : decode cX10_takeRun 143 = .ok (.goto 26, 3) := by decide +kernel
theorem dX10_takeRun_146 : decode cX10_takeRun 146 = .ok (.aload_n 0, 1) := by decide +kernel
theorem dX10_takeRun_147 : decode cX10_takeRun 147 = .ok (.iload_n 1, 1) := by decide +kernel
theorem dX10_takeRun_148 : decode cX10_takeRun 148 = .ok (.ifCond .ne 17, 3) := by decide +kernel
theorem dX10_takeRun_151 : decode cX10_takeRun 151 = .ok (.iload_n 2, 1) := by decide +kernel
theorem dX10_takeRun_152 : decode cX10_takeRun 152 = .ok (.iconst 1, 1) := by decide +kernel
theorem dX10_takeRun_153 : decode cX10_takeRun 153 = .ok (.if_icmp .lt 12, 3) := by decide +kernel
theorem dX10_takeRun_156 : decode cX10_takeRun 156 = .ok (.iload_n 2, 1) := by decide +kernel
theorem dX10_takeRun_157 : decode cX10_takeRun 157 = .ok (.iconst 3, 1) := by decide +kernel
theorem dX10_takeRun_158 : decode cX10_takeRun 158 = .ok (.if_icmp .gt 7, 3) := by decide +kernel
theorem dX10_takeRun_161 : decode cX10_takeRun 161 = .ok (.iconst 3, 1) := by decide +kernel
theorem dX10_takeRun_162 : decode cX10_takeRun 162 = .ok (.goto 4, 3) := by decide +kernel
theorem dX10_takeRun_165 : decode cX10_takeRun 165 = .ok (.iconst 5, 1) := by decide +kernel
theorem dX10_takeRun_166 : decode cX10_takeRun 166 = .ok (.putfield 76, 3) := by decide +kernel
theorem dX10_takeRun_169 : decode cX10_takeRun 169 = .ok (.return_, 1) := by decide +kernel
theorem dX10_nameWord_0 : decode cX10_nameWord 0 = .ok (.iconst 0, 1) := by decide +kernel
theorem dX10_nameWord_1 : decode cX10_nameWord 1 = .ok (.istore_n 1, 1) := by decide +kernel
theorem dX10_nameWord_2 : decode cX10_nameWord 2 = .ok (.iload_n 1, 1) := by decide +kernel
theorem dX10_nameWord_3 : decode cX10_nameWord 3 = .ok (.bipush 29, 2) := by decide +kernel
theorem dX10_nameWord_5 : decode cX10_nameWord 5 = .ok (.if_icmp .ge 41, 3) := by decide +kernel
theorem dX10_nameWord_8 : decode cX10_nameWord 8 = .ok (.aload_n 0, 1) := by decide +kernel
theorem dX10_nameWord_9 : decode cX10_nameWord 9 = .ok (.getfield 76, 3) := by decide +kernel
theorem dX10_nameWord_12 : decode cX10_nameWord 12 = .ok (.iconst 2, 1) := by decide +kernel
theorem dX10_nameWord_13 : decode cX10_nameWord 13 = .ok (.if_icmp .ne 33, 3) := by decide +kernel
theorem dX10_nameWord_16 : decode cX10_nameWord 16 = .ok (.aload_n 0, 1) := by decide +kernel
theorem dX10_nameWord_17 : decode cX10_nameWord 17 = .ok (.getfield 15, 3) := by decide +kernel
theorem dX10_nameWord_20 : decode cX10_nameWord 20 = .ok (.iload_n 1, 1) := by decide +kernel
theorem dX10_nameWord_21 : decode cX10_nameWord 21 = .ok (.laload, 1) := by decide +kernel
theorem dX10_nameWord_22 : decode cX10_nameWord 22 = .ok (.aload_n 0, 1) := by decide +kernel
theorem dX10_nameWord_23 : decode cX10_nameWord 23 = .ok (.getfield 88, 3) := by decide +kernel
theorem dX10_nameWord_26 : decode cX10_nameWord 26 = .ok (.lcmp, 1) := by decide +kernel
theorem dX10_nameWord_27 : decode cX10_nameWord 27 = .ok (.ifCond .ne 13, 3) := by decide +kernel
theorem dX10_nameWord_30 : decode cX10_nameWord 30 = .ok (.aload_n 0, 1) := by decide +kernel
theorem dX10_nameWord_31 : decode cX10_nameWord 31 = .ok (.iconst 1, 1) := by decide +kernel
theorem dX10_nameWord_32 : decode cX10_nameWord 32 = .ok (.putfield 76, 3) := by decide +kernel
theorem dX10_nameWord_35 : decode cX10_nameWord 35 = .ok (.aload_n 0, 1) := by decide +kernel
theorem dX10_nameWord_36 : decode cX10_nameWord 36 = .ok (.iload_n 1, 1) := by decide +kernel
theorem dX10_nameWord_37 : decode cX10_nameWord 37 = .ok (.putfield 73, 3) := by decide +kernel
theorem dX10_nameWord_40 : decode cX10_nameWord 40 = .ok (.iinc 1 1, 3) := by decide +kernel
theorem dX10_nameWord_43 : decode cX10_nameWord 43 = .ok (.goto (-41), 3) := by decide +kernel
theorem dX10_nameWord_46 : decode cX10_nameWord 46 = .ok (.return_, 1) := by decide +kernel
theorem dX10_isBlank_0 : decode cX10_isBlank 0 = .ok (.iload_n 0, 1) := by decide +kernel
theorem dX10_isBlank_1 : decode cX10_isBlank 1 = .ok (.bipush 32, 2) := by decide +kernel
theorem dX10_isBlank_3 : decode cX10_isBlank 3 = .ok (.if_icmp .eq 9, 3) := by decide +kernel
theorem dX10_isBlank_6 : decode cX10_isBlank 6 = .ok (.iload_n 0, 1) := by decide +kernel
theorem dX10_isBlank_7 : decode cX10_isBlank 7 = .ok (.bipush 10, 2) := by decide +kernel
theorem dX10_isBlank_9 : decode cX10_isBlank 9 = .ok (.if_icmp .ne 7, 3) := by decide +kernel
theorem dX10_isBlank_12 : decode cX10_isBlank 12 = .ok (.iconst 1, 1) := by decide +kernel
theorem dX10_isBlank_13 : decode cX10_isBlank 13 = .ok (.goto 4, 3) := by decide +kernel
theorem dX10_isBlank_16 : decode cX10_isBlank 16 = .ok (.iconst 0, 1) := by decide +kernel
theorem dX10_isBlank_17 : decode cX10_isBlank 17 = .ok (.ireturn, 1) := by decide +kernel
theorem dX10_isSign_0 : decode cX10_isSign 0 = .ok (.iload_n 0, 1) := by decide +kernel
theorem dX10_isSign_1 : decode cX10_isSign 1 = .ok (.bipush 59, 2) := by decide +kernel
theorem dX10_isSign_3 : decode cX10_isSign 3 = .ok (.if_icmp .eq 33, 3) := by decide +kernel
theorem dX10_isSign_6 : decode cX10_isSign 6 = .ok (.iload_n 0, 1) := by decide +kernel
theorem dX10_isSign_7 : decode cX10_isSign 7 = .ok (.bipush 60, 2) := by decide +kernel
theorem dX10_isSign_9 : decode cX10_isSign 9 = .ok (.if_icmp .eq 27, 3) := by decide +kernel
theorem dX10_isSign_12 : decode cX10_isSign 12 = .ok (.iload_n 0, 1) := by decide +kernel
theorem dX10_isSign_13 : decode cX10_isSign 13 = .ok (.bipush 61, 2) := by decide +kernel
theorem dX10_isSign_15 : decode cX10_isSign 15 = .ok (.if_icmp .eq 21, 3) := by decide +kernel
theorem dX10_isSign_18 : decode cX10_isSign 18 = .ok (.iload_n 0, 1) := by decide +kernel
theorem dX10_isSign_19 : decode cX10_isSign 19 = .ok (.bipush 62, 2) := by decide +kernel
theorem dX10_isSign_21 : decode cX10_isSign 21 = .ok (.if_icmp .eq 15, 3) := by decide +kernel
theorem dX10_isSign_24 : decode cX10_isSign 24 = .ok (.iload_n 0, 1) := by decide +kernel
theorem dX10_isSign_25 : decode cX10_isSign 25 = .ok (.bipush 40, 2) := by decide +kernel
theorem dX10_isSign_27 : decode cX10_isSign 27 = .ok (.if_icmp .eq 9, 3) := by decide +kernel
theorem dX10_isSign_30 : decode cX10_isSign 30 = .ok (.iload_n 0, 1) := by decide +kernel
theorem dX10_isSign_31 : decode cX10_isSign 31 = .ok (.bipush 41, 2) := by decide +kernel
theorem dX10_isSign_33 : decode cX10_isSign 33 = .ok (.if_icmp .ne 7, 3) := by decide +kernel
theorem dX10_isSign_36 : decode cX10_isSign 36 = .ok (.iconst 1, 1) := by decide +kernel
theorem dX10_isSign_37 : decode cX10_isSign 37 = .ok (.goto 4, 3) := by decide +kernel
theorem dX10_isSign_40 : decode cX10_isSign 40 = .ok (.iconst 0, 1) := by decide +kernel
theorem dX10_isSign_41 : decode cX10_isSign 41 = .ok (.ireturn, 1) := by decide +kernel
theorem dX10_refuse_0 : decode cX10_refuse 0 = .ok (.aload_n 0, 1) := by decide +kernel
theorem dX10_refuse_1 : decode cX10_refuse 1 = .ok (.iload_n 1, 1) := by decide +kernel
theorem dX10_refuse_2 : decode cX10_refuse 2 = .ok (.putfield 53, 3) := by decide +kernel
theorem dX10_refuse_5 : decode cX10_refuse 5 = .ok (.aload_n 0, 1) := by decide +kernel
theorem dX10_refuse_6 : decode cX10_refuse 6 = .ok (.aload_n 0, 1) := by decide +kernel
theorem dX10_refuse_7 : decode cX10_refuse 7 = .ok (.getfield 70, 3) := by decide +kernel
theorem dX10_refuse_10 : decode cX10_refuse 10 = .ok (.putfield 56, 3) := by decide +kernel
theorem dX10_refuse_13 : decode cX10_refuse 13 = .ok (.iconst (-1), 1) := by decide +kernel
theorem dX10_refuse_14 : decode cX10_refuse 14 = .ok (.ireturn, 1) := by decide +kernel
theorem dX10_isEnd_0 : decode cX10_isEnd 0 = .ok (.aload_n 0, 1) := by decide +kernel
theorem dX10_isEnd_1 : decode cX10_isEnd 1 = .ok (.getfield 76, 3) := by decide +kernel
theorem dX10_isEnd_4 : decode cX10_isEnd 4 = .ok (.ifCond .ne 7, 3) := by decide +kernel
theorem dX10_isEnd_7 : decode cX10_isEnd 7 = .ok (.iconst 1, 1) := by decide +kernel
theorem dX10_isEnd_8 : decode cX10_isEnd 8 = .ok (.goto 4, 3) := by decide +kernel
theorem dX10_isEnd_11 : decode cX10_isEnd 11 = .ok (.iconst 0, 1) := by decide +kernel
theorem dX10_isEnd_12 : decode cX10_isEnd 12 = .ok (.ireturn, 1) := by decide +kernel
theorem dX10_isWord_0 : decode cX10_isWord 0 = .ok (.aload_n 0, 1) := by decide +kernel
theorem dX10_isWord_1 : decode cX10_isWord 1 = .ok (.getfield 76, 3) := by decide +kernel
theorem dX10_isWord_4 : decode cX10_isWord 4 = .ok (.iconst 1, 1) := by decide +kernel
theorem dX10_isWord_5 : decode cX10_isWord 5 = .ok (.if_icmp .ne 15, 3) := by decide +kernel
theorem dX10_isWord_8 : decode cX10_isWord 8 = .ok (.aload_n 0, 1) := by decide +kernel
theorem dX10_isWord_9 : decode cX10_isWord 9 = .ok (.getfield 73, 3) := by decide +kernel
theorem dX10_isWord_12 : decode cX10_isWord 12 = .ok (.iload_n 1, 1) := by decide +kernel
theorem dX10_isWord_13 : decode cX10_isWord 13 = .ok (.if_icmp .ne 7, 3) := by decide +kernel
theorem dX10_isWord_16 : decode cX10_isWord 16 = .ok (.iconst 1, 1) := by decide +kernel
theorem dX10_isWord_17 : decode cX10_isWord 17 = .ok (.goto 4, 3) := by decide +kernel
theorem dX10_isWord_20 : decode cX10_isWord 20 = .ok (.iconst 0, 1) := by decide +kernel
theorem dX10_isWord_21 : decode cX10_isWord 21 = .ok (.ireturn, 1) := by decide +kernel
theorem dX10_isSignOf_0 : decode cX10_isSignOf 0 = .ok (.aload_n 0, 1) := by decide +kernel
theorem dX10_isSignOf_1 : decode cX10_isSignOf 1 = .ok (.getfield 76, 3) := by decide +kernel
theorem dX10_isSignOf_4 : decode cX10_isSignOf 4 = .ok (.iconst 4, 1) := by decide +kernel
theorem dX10_isSignOf_5 : decode cX10_isSignOf 5 = .ok (.if_icmp .ne 15, 3) := by decide +kernel
theorem dX10_isSignOf_8 : decode cX10_isSignOf 8 = .ok (.aload_n 0, 1) := by decide +kernel
theorem dX10_isSignOf_9 : decode cX10_isSignOf 9 = .ok (.getfield 73, 3) := by decide +kernel
theorem dX10_isSignOf_12 : decode cX10_isSignOf 12 = .ok (.iload_n 1, 1) := by decide +kernel
theorem dX10_isSignOf_13 : decode cX10_isSignOf 13 = .ok (.if_icmp .ne 7, 3) := by decide +kernel
theorem dX10_isSignOf_16 : decode cX10_isSignOf 16 = .ok (.iconst 1, 1) := by decide +kernel
theorem dX10_isSignOf_17 : decode cX10_isSignOf 17 = .ok (.goto 4, 3) := by decide +kernel
theorem dX10_isSignOf_20 : decode cX10_isSignOf 20 = .ok (.iconst 0, 1) := by decide +kernel
theorem dX10_isSignOf_21 : decode cX10_isSignOf 21 = .ok (.ireturn, 1) := by decide +kernel
theorem dX10_takeLineEnd_0 : decode cX10_takeLineEnd 0 = .ok (.aload_n 0, 1) := by decide +kernel
theorem dX10_takeLineEnd_1 : decode cX10_takeLineEnd 1 = .ok (.invokevirtual 59, 3) := by decide +kernel
theorem dX10_takeLineEnd_4 : decode cX10_takeLineEnd 4 = .ok (.aload_n 0, 1) := by decide +kernel
theorem dX10_takeLineEnd_5 : decode cX10_takeLineEnd 5 = .ok (.bipush 59, 2) := by decide +kernel
theorem dX10_takeLineEnd_7 : decode cX10_takeLineEnd 7 = .ok (.invokevirtual 92, 3) := by decide +kernel
theorem dX10_takeLineEnd_10 : decode cX10_takeLineEnd 10 = .ok (.ifCond .ne 11, 3) := by decide +kernel
theorem dX10_takeLineEnd_13 : decode cX10_takeLineEnd 13 = .ok (.aload_n 0, 1) := by decide +kernel
theorem dX10_takeLineEnd_14 : decode cX10_takeLineEnd 14 = .ok (.iconst 1, 1) := by decide +kernel
theorem dX10_takeLineEnd_15 : decode cX10_takeLineEnd 15 = .ok (.invokevirtual 96, 3) := by decide +kernel
theorem dX10_takeLineEnd_18 : decode cX10_takeLineEnd 18 = .ok (.pop, 1) := by decide +kernel
theorem dX10_takeLineEnd_19 : decode cX10_takeLineEnd 19 = .ok (.iconst 0, 1) := by decide +kernel
theorem dX10_takeLineEnd_20 : decode cX10_takeLineEnd 20 = .ok (.ireturn, 1) := by decide +kernel
theorem dX10_takeLineEnd_21 : decode cX10_takeLineEnd 21 = .ok (.aload_n 0, 1) := by decide +kernel
theorem dX10_takeLineEnd_22 : decode cX10_takeLineEnd 22 = .ok (.invokevirtual 59, 3) := by decide +kernel
theorem dX10_takeLineEnd_25 : decode cX10_takeLineEnd 25 = .ok (.iconst 1, 1) := by decide +kernel
theorem dX10_takeLineEnd_26 : decode cX10_takeLineEnd 26 = .ok (.ireturn, 1) := by decide +kernel
theorem dX10_takeCompare_0 : decode cX10_takeCompare 0 = .ok (.aload_n 0, 1) := by decide +kernel
theorem dX10_takeCompare_1 : decode cX10_takeCompare 1 = .ok (.invokevirtual 59, 3) := by decide +kernel
theorem dX10_takeCompare_4 : decode cX10_takeCompare 4 = .ok (.aload_n 0, 1) := by decide +kernel
theorem dX10_takeCompare_5 : decode cX10_takeCompare 5 = .ok (.bipush 60, 2) := by decide +kernel
theorem dX10_takeCompare_7 : decode cX10_takeCompare 7 = .ok (.invokevirtual 92, 3) := by decide +kernel
theorem dX10_takeCompare_10 : decode cX10_takeCompare 10 = .ok (.ifCond .ne 21, 3) := by decide +kernel
theorem dX10_takeCompare_13 : decode cX10_takeCompare 13 = .ok (.aload_n 0, 1) := by decide +kernel
theorem dX10_takeCompare_14 : decode cX10_takeCompare 14 = .ok (.bipush 61, 2) := by decide +kernel
theorem dX10_takeCompare_16 : decode cX10_takeCompare 16 = .ok (.invokevirtual 92, 3) := by decide +kernel
theorem dX10_takeCompare_19 : decode cX10_takeCompare 19 = .ok (.ifCond .ne 12, 3) := by decide +kernel
theorem dX10_takeCompare_22 : decode cX10_takeCompare 22 = .ok (.aload_n 0, 1) := by decide +kernel
theorem dX10_takeCompare_23 : decode cX10_takeCompare 23 = .ok (.bipush 62, 2) := by decide +kernel
theorem dX10_takeCompare_25 : decode cX10_takeCompare 25 = .ok (.invokevirtual 92, 3) := by decide +kernel
theorem dX10_takeCompare_28 : decode cX10_takeCompare 28 = .ok (.ifCond .eq 8, 3) := by decide +kernel
theorem dX10_takeCompare_31 : decode cX10_takeCompare 31 = .ok (.aload_n 0, 1) := by decide +kernel
theorem dX10_takeCompare_32 : decode cX10_takeCompare 32 = .ok (.getfield 73, 3) := by decide +kernel
theorem dX10_takeCompare_35 : decode cX10_takeCompare 35 = .ok (.ireturn, 1) := by decide +kernel
theorem dX10_takeCompare_36 : decode cX10_takeCompare 36 = .ok (.aload_n 0, 1) := by decide +kernel
theorem dX10_takeCompare_37 : decode cX10_takeCompare 37 = .ok (.iconst 1, 1) := by decide +kernel
theorem dX10_takeCompare_38 : decode cX10_takeCompare 38 = .ok (.invokevirtual 96, 3) := by decide +kernel
theorem dX10_takeCompare_41 : decode cX10_takeCompare 41 = .ok (.ireturn, 1) := by decide +kernel
theorem dX10_takeNumber_0 : decode cX10_takeNumber 0 = .ok (.aload_n 0, 1) := by decide +kernel
theorem dX10_takeNumber_1 : decode cX10_takeNumber 1 = .ok (.invokevirtual 59, 3) := by decide +kernel
theorem dX10_takeNumber_4 : decode cX10_takeNumber 4 = .ok (.aload_n 0, 1) := by decide +kernel
theorem dX10_takeNumber_5 : decode cX10_takeNumber 5 = .ok (.getfield 76, 3) := by decide +kernel
theorem dX10_takeNumber_8 : decode cX10_takeNumber 8 = .ok (.iconst 3, 1) := by decide +kernel
theorem dX10_takeNumber_9 : decode cX10_takeNumber 9 = .ok (.if_icmp .eq 9, 3) := by decide +kernel
theorem dX10_takeNumber_12 : decode cX10_takeNumber 12 = .ok (.aload_n 0, 1) := by decide +kernel
theorem dX10_takeNumber_13 : decode cX10_takeNumber 13 = .ok (.iconst 1, 1) := by decide +kernel
theorem dX10_takeNumber_14 : decode cX10_takeNumber 14 = .ok (.invokevirtual 96, 3) := by decide +kernel
theorem dX10_takeNumber_17 : decode cX10_takeNumber 17 = .ok (.ireturn, 1) := by decide +kernel
theorem dX10_takeNumber_18 : decode cX10_takeNumber 18 = .ok (.aload_n 0, 1) := by decide +kernel
theorem dX10_takeNumber_19 : decode cX10_takeNumber 19 = .ok (.getfield 73, 3) := by decide +kernel
theorem dX10_takeNumber_22 : decode cX10_takeNumber 22 = .ok (.iload_n 1, 1) := by decide +kernel
theorem dX10_takeNumber_23 : decode cX10_takeNumber 23 = .ok (.if_icmp .lt 11, 3) := by decide +kernel
theorem dX10_takeNumber_26 : decode cX10_takeNumber 26 = .ok (.aload_n 0, 1) := by decide +kernel
theorem dX10_takeNumber_27 : decode cX10_takeNumber 27 = .ok (.getfield 73, 3) := by decide +kernel
theorem dX10_takeNumber_30 : decode cX10_takeNumber 30 = .ok (.iload_n 2, 1) := by decide +kernel
theorem dX10_takeNumber_31 : decode cX10_takeNumber 31 = .ok (.if_icmp .le 11, 3) := by decide +kernel
theorem dX10_takeNumber_34 : decode cX10_takeNumber 34 = .ok (.aload_n 0, 1) := by decide +kernel
theorem dX10_takeNumber_35 : decode cX10_takeNumber 35 = .ok (.iconst 2, 1) := by decide +kernel
theorem dX10_takeNumber_36 : decode cX10_takeNumber 36 = .ok (.invokevirtual 96, 3) := by decide +kernel
theorem dX10_takeNumber_39 : decode cX10_takeNumber 39 = .ok (.goto 7, 3) := by decide +kernel
theorem dX10_takeNumber_42 : decode cX10_takeNumber 42 = .ok (.aload_n 0, 1) := by decide +kernel
theorem dX10_takeNumber_43 : decode cX10_takeNumber 43 = .ok (.getfield 73, 3) := by decide +kernel
theorem dX10_takeNumber_46 : decode cX10_takeNumber 46 = .ok (.ireturn, 1) := by decide +kernel
theorem dX10_takeOneOf_0 : decode cX10_takeOneOf 0 = .ok (.aload_n 0, 1) := by decide +kernel
theorem dX10_takeOneOf_1 : decode cX10_takeOneOf 1 = .ok (.invokevirtual 59, 3) := by decide +kernel
theorem dX10_takeOneOf_4 : decode cX10_takeOneOf 4 = .ok (.aload_n 0, 1) := by decide +kernel
theorem dX10_takeOneOf_5 : decode cX10_takeOneOf 5 = .ok (.getfield 76, 3) := by decide +kernel
theorem dX10_takeOneOf_8 : decode cX10_takeOneOf 8 = .ok (.iconst 1, 1) := by decide +kernel
theorem dX10_takeOneOf_9 : decode cX10_takeOneOf 9 = .ok (.if_icmp .ne 19, 3) := by decide +kernel
theorem dX10_takeOneOf_12 : decode cX10_takeOneOf 12 = .ok (.aload_n 0, 1) := by decide +kernel
theorem dX10_takeOneOf_13 : decode cX10_takeOneOf 13 = .ok (.getfield 73, 3) := by decide +kernel
theorem dX10_takeOneOf_16 : decode cX10_takeOneOf 16 = .ok (.iload_n 1, 1) := by decide +kernel
theorem dX10_takeOneOf_17 : decode cX10_takeOneOf 17 = .ok (.if_icmp .lt 11, 3) := by decide +kernel
theorem dX10_takeOneOf_20 : decode cX10_takeOneOf 20 = .ok (.aload_n 0, 1) := by decide +kernel
theorem dX10_takeOneOf_21 : decode cX10_takeOneOf 21 = .ok (.getfield 73, 3) := by decide +kernel
theorem dX10_takeOneOf_24 : decode cX10_takeOneOf 24 = .ok (.iload_n 2, 1) := by decide +kernel
theorem dX10_takeOneOf_25 : decode cX10_takeOneOf 25 = .ok (.if_icmp .le 9, 3) := by decide +kernel
theorem dX10_takeOneOf_28 : decode cX10_takeOneOf 28 = .ok (.aload_n 0, 1) := by decide +kernel
theorem dX10_takeOneOf_29 : decode cX10_takeOneOf 29 = .ok (.iconst 1, 1) := by decide +kernel
theorem dX10_takeOneOf_30 : decode cX10_takeOneOf 30 = .ok (.invokevirtual 96, 3) := by decide +kernel
theorem dX10_takeOneOf_33 : decode cX10_takeOneOf 33 = .ok (.ireturn, 1) := by decide +kernel
theorem dX10_takeOneOf_34 : decode cX10_takeOneOf 34 = .ok (.aload_n 0, 1) := by decide +kernel
theorem dX10_takeOneOf_35 : decode cX10_takeOneOf 35 = .ok (.getfield 73, 3) := by decide +kernel
theorem dX10_takeOneOf_38 : decode cX10_takeOneOf 38 = .ok (.iload_n 1, 1) := by decide +kernel
theorem dX10_takeOneOf_39 : decode cX10_takeOneOf 39 = .ok (.isub, 1) := by decide +kernel
theorem dX10_takeOneOf_40 : decode cX10_takeOneOf 40 = .ok (.ireturn, 1) := by decide +kernel
theorem dX10_takeNewName_0 : decode cX10_takeNewName 0 = .ok (.aload_n 0, 1) := by decide +kernel
theorem dX10_takeNewName_1 : decode cX10_takeNewName 1 = .ok (.invokevirtual 59, 3) := by decide +kernel
theorem dX10_takeNewName_4 : decode cX10_takeNewName 4 = .ok (.aload_n 0, 1) := by decide +kernel
theorem dX10_takeNewName_5 : decode cX10_takeNewName 5 = .ok (.getfield 76, 3) := by decide +kernel
theorem dX10_takeNewName_8 : decode cX10_takeNewName 8 = .ok (.iconst 2, 1) := by decide +kernel
theorem dX10_takeNewName_9 : decode cX10_takeNewName 9 = .ok (.if_icmp .eq 11, 3) := by decide +kernel
theorem dX10_takeNewName_12 : decode cX10_takeNewName 12 = .ok (.aload_n 0, 1) := by decide +kernel
theorem dX10_takeNewName_13 : decode cX10_takeNewName 13 = .ok (.iconst 1, 1) := by decide +kernel
theorem dX10_takeNewName_14 : decode cX10_takeNewName 14 = .ok (.invokevirtual 96, 3) := by decide +kernel
theorem dX10_takeNewName_17 : decode cX10_takeNewName 17 = .ok (.pop, 1) := by decide +kernel
theorem dX10_takeNewName_18 : decode cX10_takeNewName 18 = .ok (.lconst 0, 1) := by decide +kernel
theorem dX10_takeNewName_19 : decode cX10_takeNewName 19 = .ok (.lreturn, 1) := by decide +kernel
theorem dX10_takeNewName_20 : decode cX10_takeNewName 20 = .ok (.aload_n 1, 1) := by decide +kernel
theorem dX10_takeNewName_21 : decode cX10_takeNewName 21 = .ok (.aload_n 0, 1) := by decide +kernel
theorem dX10_takeNewName_22 : decode cX10_takeNewName 22 = .ok (.getfield 88, 3) := by decide +kernel
theorem dX10_takeNewName_25 : decode cX10_takeNewName 25 = .ok (.invokevirtual 99, 3) := by decide +kernel
theorem dX10_takeNewName_28 : decode cX10_takeNewName 28 = .ok (.iconst (-1), 1) := by decide +kernel
theorem dX10_takeNewName_29 : decode cX10_takeNewName 29 = .ok (.if_icmp .ne 15, 3) := by decide +kernel
theorem dX10_takeNewName_32 : decode cX10_takeNewName 32 = .ok (.aload_n 1, 1) := by decide +kernel
theorem dX10_takeNewName_33 : decode cX10_takeNewName 33 = .ok (.aload_n 0, 1) := by decide +kernel
theorem dX10_takeNewName_34 : decode cX10_takeNewName 34 = .ok (.getfield 88, 3) := by decide +kernel
theorem dX10_takeNewName_37 : decode cX10_takeNewName 37 = .ok (.invokevirtual 105, 3) := by decide +kernel
theorem dX10_takeNewName_40 : decode cX10_takeNewName 40 = .ok (.iconst (-1), 1) := by decide +kernel
theorem dX10_takeNewName_41 : decode cX10_takeNewName 41 = .ok (.if_icmp .eq 11, 3) := by decide +kernel
theorem dX10_takeNewName_44 : decode cX10_takeNewName 44 = .ok (.aload_n 0, 1) := by decide +kernel
theorem dX10_takeNewName_45 : decode cX10_takeNewName 45 = .ok (.iconst 3, 1) := by decide +kernel
theorem dX10_takeNewName_46 : decode cX10_takeNewName 46 = .ok (.invokevirtual 96, 3) := by decide +kernel
theorem dX10_takeNewName_49 : decode cX10_takeNewName 49 = .ok (.pop, 1) := by decide +kernel
theorem dX10_takeNewName_50 : decode cX10_takeNewName 50 = .ok (.lconst 0, 1) := by decide +kernel
theorem dX10_takeNewName_51 : decode cX10_takeNewName 51 = .ok (.lreturn, 1) := by decide +kernel
theorem dX10_takeNewName_52 : decode cX10_takeNewName 52 = .ok (.aload_n 0, 1) := by decide +kernel
theorem dX10_takeNewName_53 : decode cX10_takeNewName 53 = .ok (.getfield 88, 3) := by decide +kernel
theorem dX10_takeNewName_56 : decode cX10_takeNewName 56 = .ok (.lreturn, 1) := by decide +kernel
theorem dX10_takeHouse_0 : decode cX10_takeHouse 0 = .ok (.aload_n 0, 1) := by decide +kernel
theorem dX10_takeHouse_1 : decode cX10_takeHouse 1 = .ok (.invokevirtual 59, 3) := by decide +kernel
theorem dX10_takeHouse_4 : decode cX10_takeHouse 4 = .ok (.aload_n 0, 1) := by decide +kernel
theorem dX10_takeHouse_5 : decode cX10_takeHouse 5 = .ok (.aload_n 1, 1) := by decide +kernel
theorem dX10_takeHouse_6 : decode cX10_takeHouse 6 = .ok (.invokevirtual 108, 3) := by decide +kernel
theorem dX10_takeHouse_9 : decode cX10_takeHouse 9 = .ok (.ireturn, 1) := by decide +kernel
theorem dX10_houseHere_0 : decode cX10_houseHere 0 = .ok (.aload_n 0, 1) := by decide +kernel
theorem dX10_houseHere_1 : decode cX10_houseHere 1 = .ok (.getfield 76, 3) := by decide +kernel
theorem dX10_houseHere_4 : decode cX10_houseHere 4 = .ok (.iconst 2, 1) := by decide +kernel
theorem dX10_houseHere_5 : decode cX10_houseHere 5 = .ok (.if_icmp .eq 9, 3) := by decide +kernel
theorem dX10_houseHere_8 : decode cX10_houseHere 8 = .ok (.aload_n 0, 1) := by decide +kernel
theorem dX10_houseHere_9 : decode cX10_houseHere 9 = .ok (.iconst 1, 1) := by decide +kernel
theorem dX10_houseHere_10 : decode cX10_houseHere 10 = .ok (.invokevirtual 96, 3) := by decide +kernel
theorem dX10_houseHere_13 : decode cX10_houseHere 13 = .ok (.ireturn, 1) := by decide +kernel
theorem dX10_houseHere_14 : decode cX10_houseHere 14 = .ok (.aload_n 1, 1) := by decide +kernel
theorem dX10_houseHere_15 : decode cX10_houseHere 15 = .ok (.aload_n 0, 1) := by decide +kernel
theorem dX10_houseHere_16 : decode cX10_houseHere 16 = .ok (.getfield 88, 3) := by decide +kernel
theorem dX10_houseHere_19 : decode cX10_houseHere 19 = .ok (.invokevirtual 99, 3) := by decide +kernel
theorem dX10_houseHere_22 : decode cX10_houseHere 22 = .ok (.istore_n 2, 1) := by decide +kernel
theorem dX10_houseHere_23 : decode cX10_houseHere 23 = .ok (.iload_n 2, 1) := by decide +kernel
theorem dX10_houseHere_24 : decode cX10_houseHere 24 = .ok (.iconst (-1), 1) := by decide +kernel
theorem dX10_houseHere_25 : decode cX10_houseHere 25 = .ok (.if_icmp .ne 11, 3) := by decide +kernel
theorem dX10_houseHere_28 : decode cX10_houseHere 28 = .ok (.aload_n 0, 1) := by decide +kernel
theorem dX10_houseHere_29 : decode cX10_houseHere 29 = .ok (.iconst 3, 1) := by decide +kernel
theorem dX10_houseHere_30 : decode cX10_houseHere 30 = .ok (.invokevirtual 96, 3) := by decide +kernel
theorem dX10_houseHere_33 : decode cX10_houseHere 33 = .ok (.goto 4, 3) := by decide +kernel
theorem dX10_houseHere_36 : decode cX10_houseHere 36 = .ok (.iload_n 2, 1) := by decide +kernel
theorem dX10_houseHere_37 : decode cX10_houseHere 37 = .ok (.ireturn, 1) := by decide +kernel
theorem dX10_takePerson_0 : decode cX10_takePerson 0 = .ok (.aload_n 0, 1) := by decide +kernel
theorem dX10_takePerson_1 : decode cX10_takePerson 1 = .ok (.invokevirtual 59, 3) := by decide +kernel
theorem dX10_takePerson_4 : decode cX10_takePerson 4 = .ok (.aload_n 0, 1) := by decide +kernel
theorem dX10_takePerson_5 : decode cX10_takePerson 5 = .ok (.aload_n 1, 1) := by decide +kernel
theorem dX10_takePerson_6 : decode cX10_takePerson 6 = .ok (.invokevirtual 112, 3) := by decide +kernel
theorem dX10_takePerson_9 : decode cX10_takePerson 9 = .ok (.ireturn, 1) := by decide +kernel
theorem dX10_personHere_0 : decode cX10_personHere 0 = .ok (.aload_n 0, 1) := by decide +kernel
theorem dX10_personHere_1 : decode cX10_personHere 1 = .ok (.getfield 76, 3) := by decide +kernel
theorem dX10_personHere_4 : decode cX10_personHere 4 = .ok (.iconst 2, 1) := by decide +kernel
theorem dX10_personHere_5 : decode cX10_personHere 5 = .ok (.if_icmp .eq 9, 3) := by decide +kernel
theorem dX10_personHere_8 : decode cX10_personHere 8 = .ok (.aload_n 0, 1) := by decide +kernel
theorem dX10_personHere_9 : decode cX10_personHere 9 = .ok (.iconst 1, 1) := by decide +kernel
theorem dX10_personHere_10 : decode cX10_personHere 10 = .ok (.invokevirtual 96, 3) := by decide +kernel
theorem dX10_personHere_13 : decode cX10_personHere 13 = .ok (.ireturn, 1) := by decide +kernel
theorem dX10_personHere_14 : decode cX10_personHere 14 = .ok (.aload_n 1, 1) := by decide +kernel
theorem dX10_personHere_15 : decode cX10_personHere 15 = .ok (.aload_n 0, 1) := by decide +kernel
theorem dX10_personHere_16 : decode cX10_personHere 16 = .ok (.getfield 88, 3) := by decide +kernel
theorem dX10_personHere_19 : decode cX10_personHere 19 = .ok (.invokevirtual 105, 3) := by decide +kernel
theorem dX10_personHere_22 : decode cX10_personHere 22 = .ok (.istore_n 2, 1) := by decide +kernel
theorem dX10_personHere_23 : decode cX10_personHere 23 = .ok (.iload_n 2, 1) := by decide +kernel
theorem dX10_personHere_24 : decode cX10_personHere 24 = .ok (.iconst (-1), 1) := by decide +kernel
theorem dX10_personHere_25 : decode cX10_personHere 25 = .ok (.if_icmp .ne 11, 3) := by decide +kernel
theorem dX10_personHere_28 : decode cX10_personHere 28 = .ok (.aload_n 0, 1) := by decide +kernel
theorem dX10_personHere_29 : decode cX10_personHere 29 = .ok (.iconst 3, 1) := by decide +kernel
theorem dX10_personHere_30 : decode cX10_personHere 30 = .ok (.invokevirtual 96, 3) := by decide +kernel
theorem dX10_personHere_33 : decode cX10_personHere 33 = .ok (.goto 4, 3) := by decide +kernel
theorem dX10_personHere_36 : decode cX10_personHere 36 = .ok (.iload_n 2, 1) := by decide +kernel
theorem dX10_personHere_37 : decode cX10_personHere 37 = .ok (.ireturn, 1) := by decide +kernel
theorem dX11_init_0 : decode cX11_init 0 = .ok (.aload_n 0, 1) := by decide +kernel
theorem dX11_init_1 : decode cX11_init 1 = .ok (.invokespecial 1, 3) := by decide +kernel
theorem dX11_init_4 : decode cX11_init 4 = .ok (.aload_n 0, 1) := by decide +kernel
theorem dX11_init_5 : decode cX11_init 5 = .ok (.new 7, 3) := by decide +kernel
theorem dX11_init_8 : decode cX11_init 8 = .ok (.dup, 1) := by decide +kernel
theorem dX11_init_9 : decode cX11_init 9 = .ok (.invokespecial 9, 3) := by decide +kernel
theorem dX11_init_12 : decode cX11_init 12 = .ok (.putfield 10, 3) := by decide +kernel
theorem dX11_init_15 : decode cX11_init 15 = .ok (.aload_n 0, 1) := by decide +kernel
theorem dX11_init_16 : decode cX11_init 16 = .ok (.new 16, 3) := by decide +kernel
theorem dX11_init_19 : decode cX11_init 19 = .ok (.dup, 1) := by decide +kernel
theorem dX11_init_20 : decode cX11_init 20 = .ok (.invokespecial 18, 3) := by decide +kernel
theorem dX11_init_23 : decode cX11_init 23 = .ok (.putfield 19, 3) := by decide +kernel
theorem dX11_init_26 : decode cX11_init 26 = .ok (.aload_n 0, 1) := by decide +kernel
theorem dX11_init_27 : decode cX11_init 27 = .ok (.new 16, 3) := by decide +kernel
theorem dX11_init_30 : decode cX11_init 30 = .ok (.dup, 1) := by decide +kernel
theorem dX11_init_31 : decode cX11_init 31 = .ok (.invokespecial 18, 3) := by decide +kernel
theorem dX11_init_34 : decode cX11_init 34 = .ok (.putfield 23, 3) := by decide +kernel
theorem dX11_init_37 : decode cX11_init 37 = .ok (.aload_n 0, 1) := by decide +kernel
theorem dX11_init_38 : decode cX11_init 38 = .ok (.new 16, 3) := by decide +kernel
theorem dX11_init_41 : decode cX11_init 41 = .ok (.dup, 1) := by decide +kernel
theorem dX11_init_42 : decode cX11_init 42 = .ok (.invokespecial 18, 3) := by decide +kernel
theorem dX11_init_45 : decode cX11_init 45 = .ok (.putfield 26, 3) := by decide +kernel
theorem dX11_init_48 : decode cX11_init 48 = .ok (.aload_n 0, 1) := by decide +kernel
theorem dX11_init_49 : decode cX11_init 49 = .ok (.new 16, 3) := by decide +kernel
theorem dX11_init_52 : decode cX11_init 52 = .ok (.dup, 1) := by decide +kernel
theorem dX11_init_53 : decode cX11_init 53 = .ok (.invokespecial 18, 3) := by decide +kernel
theorem dX11_init_56 : decode cX11_init 56 = .ok (.putfield 29, 3) := by decide +kernel
theorem dX11_init_59 : decode cX11_init 59 = .ok (.aload_n 0, 1) := by decide +kernel
theorem dX11_init_60 : decode cX11_init 60 = .ok (.new 32, 3) := by decide +kernel
theorem dX11_init_63 : decode cX11_init 63 = .ok (.dup, 1) := by decide +kernel
theorem dX11_init_64 : decode cX11_init 64 = .ok (.aload_n 0, 1) := by decide +kernel
theorem dX11_init_65 : decode cX11_init 65 = .ok (.getfield 19, 3) := by decide +kernel
theorem dX11_init_68 : decode cX11_init 68 = .ok (.getfield 34, 3) := by decide +kernel
theorem dX11_init_71 : decode cX11_init 71 = .ok (.invokespecial 38, 3) := by decide +kernel
theorem dX11_init_74 : decode cX11_init 74 = .ok (.putfield 41, 3) := by decide +kernel
theorem dX11_init_77 : decode cX11_init 77 = .ok (.aload_n 0, 1) := by decide +kernel
theorem dX11_init_78 : decode cX11_init 78 = .ok (.new 45, 3) := by decide +kernel
theorem dX11_init_81 : decode cX11_init 81 = .ok (.dup, 1) := by decide +kernel
theorem dX11_init_82 : decode cX11_init 82 = .ok (.aload_n 0, 1) := by decide +kernel
theorem dX11_init_83 : decode cX11_init 83 = .ok (.getfield 19, 3) := by decide +kernel
theorem dX11_init_86 : decode cX11_init 86 = .ok (.getfield 34, 3) := by decide +kernel
theorem dX11_init_89 : decode cX11_init 89 = .ok (.invokespecial 47, 3) := by decide +kernel
theorem dX11_init_92 : decode cX11_init 92 = .ok (.putfield 48, 3) := by decide +kernel
theorem dX11_init_95 : decode cX11_init 95 = .ok (.aload_n 0, 1) := by decide +kernel
theorem dX11_init_96 : decode cX11_init 96 = .ok (.new 52, 3) := by decide +kernel
theorem dX11_init_99 : decode cX11_init 99 = .ok (.dup, 1) := by decide +kernel
theorem dX11_init_100 : decode cX11_init 100 = .ok (.aload_n 0, 1) := by decide +kernel
theorem dX11_init_101 : decode cX11_init 101 = .ok (.getfield 10, 3) := by decide +kernel
theorem dX11_init_104 : decode cX11_init 104 = .ok (.aload_n 0, 1) := by decide +kernel
theorem dX11_init_105 : decode cX11_init 105 = .ok (.getfield 23, 3) := by decide +kernel
theorem dX11_init_108 : decode cX11_init 108 = .ok (.invokespecial 54, 3) := by decide +kernel
theorem dX11_init_111 : decode cX11_init 111 = .ok (.putfield 57, 3) := by decide +kernel
theorem dX11_init_114 : decode cX11_init 114 = .ok (.aload_n 0, 1) := by decide +kernel
theorem dX11_init_115 : decode cX11_init 115 = .ok (.new 61, 3) := by decide +kernel
theorem dX11_init_118 : decode cX11_init 118 = .ok (.dup, 1) := by decide +kernel
theorem dX11_init_119 : decode cX11_init 119 = .ok (.aload_n 0, 1) := by decide +kernel
theorem dX11_init_120 : decode cX11_init 120 = .ok (.getfield 10, 3) := by decide +kernel
theorem dX11_init_123 : decode cX11_init 123 = .ok (.aload_n 0, 1) := by decide +kernel
theorem dX11_init_124 : decode cX11_init 124 = .ok (.getfield 19, 3) := by decide +kernel
theorem dX11_init_127 : decode cX11_init 127 = .ok (.getfield 34, 3) := by decide +kernel
theorem dX11_init_130 : decode cX11_init 130 = .ok (.invokespecial 63, 3) := by decide +kernel
theorem dX11_init_133 : decode cX11_init 133 = .ok (.putfield 66, 3) := by decide +kernel
theorem dX11_init_136 : decode cX11_init 136 = .ok (.aload_n 0, 1) := by decide +kernel
theorem dX11_init_137 : decode cX11_init 137 = .ok (.new 70, 3) := by decide +kernel
theorem dX11_init_140 : decode cX11_init 140 = .ok (.dup, 1) := by decide +kernel
theorem dX11_init_141 : decode cX11_init 141 = .ok (.invokespecial 72, 3) := by decide +kernel
theorem dX11_init_144 : decode cX11_init 144 = .ok (.putfield 73, 3) := by decide +kernel
theorem dX11_init_147 : decode cX11_init 147 = .ok (.aload_n 0, 1) := by decide +kernel
theorem dX11_init_148 : decode cX11_init 148 = .ok (.new 77, 3) := by decide +kernel
theorem dX11_init_151 : decode cX11_init 151 = .ok (.dup, 1) := by decide +kernel
theorem dX11_init_152 : decode cX11_init 152 = .ok (.invokespecial 79, 3) := by decide +kernel
theorem dX11_init_155 : decode cX11_init 155 = .ok (.putfield 80, 3) := by decide +kernel
theorem dX11_init_158 : decode cX11_init 158 = .ok (.aload_n 0, 1) := by decide +kernel
theorem dX11_init_159 : decode cX11_init 159 = .ok (.new 84, 3) := by decide +kernel
theorem dX11_init_162 : decode cX11_init 162 = .ok (.dup, 1) := by decide +kernel
theorem dX11_init_163 : decode cX11_init 163 = .ok (.aload_n 0, 1) := by decide +kernel
theorem dX11_init_164 : decode cX11_init 164 = .ok (.getfield 10, 3) := by decide +kernel
theorem dX11_init_167 : decode cX11_init 167 = .ok (.getfield 86, 3) := by decide +kernel
theorem dX11_init_170 : decode cX11_init 170 = .ok (.invokespecial 90, 3) := by decide +kernel
theorem dX11_init_173 : decode cX11_init 173 = .ok (.putfield 93, 3) := by decide +kernel
theorem dX11_init_176 : decode cX11_init 176 = .ok (.aload_n 0, 1) := by decide +kernel
theorem dX11_init_177 : decode cX11_init 177 = .ok (.iconst (-1), 1) := by decide +kernel
theorem dX11_init_178 : decode cX11_init 178 = .ok (.putfield 97, 3) := by decide +kernel
theorem dX11_init_181 : decode cX11_init 181 = .ok (.aload_n 0, 1) := by decide +kernel
theorem dX11_init_182 : decode cX11_init 182 = .ok (.iconst (-1), 1) := by decide +kernel
theorem dX11_init_183 : decode cX11_init 183 = .ok (.putfield 101, 3) := by decide +kernel
theorem dX11_init_186 : decode cX11_init 186 = .ok (.return_, 1) := by decide +kernel
theorem dX11_feed_0 : decode cX11_feed 0 = .ok (.aload_n 0, 1) := by decide +kernel
theorem dX11_feed_1 : decode cX11_feed 1 = .ok (.getfield 10, 3) := by decide +kernel
theorem dX11_feed_4 : decode cX11_feed 4 = .ok (.getfield 104, 3) := by decide +kernel
theorem dX11_feed_7 : decode cX11_feed 7 = .ok (.bipush 20, 2) := by decide +kernel
theorem dX11_feed_9 : decode cX11_feed 9 = .ok (.iadd, 1) := by decide +kernel
theorem dX11_feed_10 : decode cX11_feed 10 = .ok (.sipush 940, 3) := by decide +kernel
theorem dX11_feed_13 : decode cX11_feed 13 = .ok (.if_icmp .le 5, 3) := by decide +kernel
theorem dX11_feed_16 : decode cX11_feed 16 = .ok (.iconst (-1), 1) := by decide +kernel
theorem dX11_feed_17 : decode cX11_feed 17 = .ok (.ireturn, 1) := by decide +kernel
theorem dX11_feed_18 : decode cX11_feed 18 = .ok (.aload_n 0, 1) := by decide +kernel
theorem dX11_feed_19 : decode cX11_feed 19 = .ok (.getfield 10, 3) := by decide +kernel
theorem dX11_feed_22 : decode cX11_feed 22 = .ok (.iload_n 1, 1) := by decide +kernel
theorem dX11_feed_23 : decode cX11_feed 23 = .ok (.invokevirtual 107, 3) := by decide +kernel
theorem dX11_feed_26 : decode cX11_feed 26 = .ok (.aload_n 0, 1) := by decide +kernel
theorem dX11_feed_27 : decode cX11_feed 27 = .ok (.getfield 10, 3) := by decide +kernel
theorem dX11_feed_30 : decode cX11_feed 30 = .ok (.iload_n 2, 1) := by decide +kernel
theorem dX11_feed_31 : decode cX11_feed 31 = .ok (.invokevirtual 107, 3) := by decide +kernel
theorem dX11_feed_34 : decode cX11_feed 34 = .ok (.aload_n 0, 1) := by decide +kernel
theorem dX11_feed_35 : decode cX11_feed 35 = .ok (.getfield 10, 3) := by decide +kernel
theorem dX11_feed_38 : decode cX11_feed 38 = .ok (.iload_n 3, 1) := by decide +kernel
theorem dX11_feed_39 : decode cX11_feed 39 = .ok (.invokevirtual 107, 3) := by decide +kernel
theorem dX11_feed_42 : decode cX11_feed 42 = .ok (.aload_n 0, 1) := by decide +kernel
theorem dX11_feed_43 : decode cX11_feed 43 = .ok (.getfield 10, 3) := by decide +kernel
theorem dX11_feed_46 : decode cX11_feed 46 = .ok (.iload 4, 2) := by decide +kernel
theorem dX11_feed_48 : decode cX11_feed 48 = .ok (.invokevirtual 107, 3) := by decide +kernel
theorem dX11_feed_51 : decode cX11_feed 51 = .ok (.aload_n 0, 1) := by decide +kernel
theorem dX11_feed_52 : decode cX11_feed 52 = .ok (.getfield 10, 3) := by decide +kernel
theorem dX11_feed_55 : decode cX11_feed 55 = .ok (.iload 5, 2) := by decide +kernel
theorem dX11_feed_57 : decode cX11_feed 57 = .ok (.invokevirtual 107, 3) := by decide +kernel
theorem dX11_feed_60 : decode cX11_feed 60 = .ok (.aload_n 0, 1) := by decide +kernel
theorem dX11_feed_61 : decode cX11_feed 61 = .ok (.getfield 10, 3) := by decide +kernel
theorem dX11_feed_64 : decode cX11_feed 64 = .ok (.getfield 104, 3) := by decide +kernel
theorem dX11_feed_67 : decode cX11_feed 67 = .ok (.ireturn, 1) := by decide +kernel
theorem dX11_end_0 : decode cX11_end 0 = .ok (.iload_n 1, 1) := by decide +kernel
theorem dX11_end_1 : decode cX11_end 1 = .ok (.ifCond .lt 14, 3) := by decide +kernel
theorem dX11_end_4 : decode cX11_end 4 = .ok (.iload_n 1, 1) := by decide +kernel
theorem dX11_end_5 : decode cX11_end 5 = .ok (.aload_n 0, 1) := by decide +kernel
theorem dX11_end_6 : decode cX11_end 6 = .ok (.getfield 10, 3) := by decide +kernel
theorem dX11_end_9 : decode cX11_end 9 = .ok (.getfield 104, 3) := by decide +kernel
theorem dX11_end_12 : decode cX11_end 12 = .ok (.if_icmp .le 5, 3) := by decide +kernel
theorem dX11_end_15 : decode cX11_end 15 = .ok (.iconst 0, 1) := by decide +kernel
theorem dX11_end_16 : decode cX11_end 16 = .ok (.ireturn, 1) := by decide +kernel
theorem dX11_end_17 : decode cX11_end 17 = .ok (.aload_n 0, 1) := by decide +kernel
theorem dX11_end_18 : decode cX11_end 18 = .ok (.getfield 10, 3) := by decide +kernel
theorem dX11_end_21 : decode cX11_end 21 = .ok (.iload_n 1, 1) := by decide +kernel
theorem dX11_end_22 : decode cX11_end 22 = .ok (.putfield 104, 3) := by decide +kernel
theorem dX11_end_25 : decode cX11_end 25 = .ok (.iconst 1, 1) := by decide +kernel
theorem dX11_end_26 : decode cX11_end 26 = .ok (.ireturn, 1) := by decide +kernel
theorem dX11_quarter_0 : decode cX11_quarter 0 = .ok (.aload_n 0, 1) := by decide +kernel
theorem dX11_quarter_1 : decode cX11_quarter 1 = .ok (.getfield 57, 3) := by decide +kernel
theorem dX11_quarter_4 : decode cX11_quarter 4 = .ok (.invokevirtual 111, 3) := by decide +kernel
theorem dX11_quarter_7 : decode cX11_quarter 7 = .ok (.istore_n 1, 1) := by decide +kernel
theorem dX11_quarter_8 : decode cX11_quarter 8 = .ok (.aload_n 0, 1) := by decide +kernel
theorem dX11_quarter_9 : decode cX11_quarter 9 = .ok (.invokevirtual 115, 3) := by decide +kernel
theorem dX11_quarter_12 : decode cX11_quarter 12 = .ok (.iload_n 1, 1) := by decide +kernel
theorem dX11_quarter_13 : decode cX11_quarter 13 = .ok (.iconst (-1), 1) := by decide +kernel
theorem dX11_quarter_14 : decode cX11_quarter 14 = .ok (.if_icmp .ne 13, 3) := by decide +kernel
theorem dX11_quarter_17 : decode cX11_quarter 17 = .ok (.iconst (-1), 1) := by decide +kernel
theorem dX11_quarter_18 : decode cX11_quarter 18 = .ok (.aload_n 0, 1) := by decide +kernel
theorem dX11_quarter_19 : decode cX11_quarter 19 = .ok (.getfield 10, 3) := by decide +kernel
theorem dX11_quarter_22 : decode cX11_quarter 22 = .ok (.getfield 118, 3) := by decide +kernel
theorem dX11_quarter_25 : decode cX11_quarter 25 = .ok (.isub, 1) := by decide +kernel
theorem dX11_quarter_26 : decode cX11_quarter 26 = .ok (.ireturn, 1) := by decide +kernel
theorem dX11_quarter_27 : decode cX11_quarter 27 = .ok (.aload_n 0, 1) := by decide +kernel
theorem dX11_quarter_28 : decode cX11_quarter 28 = .ok (.getfield 23, 3) := by decide +kernel
theorem dX11_quarter_31 : decode cX11_quarter 31 = .ok (.getfield 121, 3) := by decide +kernel
theorem dX11_quarter_34 : decode cX11_quarter 34 = .ok (.invokevirtual 125, 3) := by decide +kernel
theorem dX11_quarter_37 : decode cX11_quarter 37 = .ok (.aload_n 0, 1) := by decide +kernel
theorem dX11_quarter_38 : decode cX11_quarter 38 = .ok (.getfield 19, 3) := by decide +kernel
theorem dX11_quarter_41 : decode cX11_quarter 41 = .ok (.aload_n 0, 1) := by decide +kernel
theorem dX11_quarter_42 : decode cX11_quarter 42 = .ok (.getfield 23, 3) := by decide +kernel
theorem dX11_quarter_45 : decode cX11_quarter 45 = .ok (.invokevirtual 130, 3) := by decide +kernel
theorem dX11_quarter_48 : decode cX11_quarter 48 = .ok (.aload_n 0, 1) := by decide +kernel
theorem dX11_quarter_49 : decode cX11_quarter 49 = .ok (.getfield 41, 3) := by decide +kernel
theorem dX11_quarter_52 : decode cX11_quarter 52 = .ok (.invokevirtual 134, 3) := by decide +kernel
theorem dX11_quarter_55 : decode cX11_quarter 55 = .ok (.iload_n 1, 1) := by decide +kernel
theorem dX11_quarter_56 : decode cX11_quarter 56 = .ok (.ireturn, 1) := by decide +kernel
theorem dX11_fault_0 : decode cX11_fault 0 = .ok (.aload_n 0, 1) := by decide +kernel
theorem dX11_fault_1 : decode cX11_fault 1 = .ok (.getfield 137, 3) := by decide +kernel
theorem dX11_fault_4 : decode cX11_fault 4 = .ok (.ireturn, 1) := by decide +kernel
theorem dX11_house_0 : decode cX11_house 0 = .ok (.aload_n 0, 1) := by decide +kernel
theorem dX11_house_1 : decode cX11_house 1 = .ok (.getfield 19, 3) := by decide +kernel
theorem dX11_house_4 : decode cX11_house 4 = .ok (.getfield 140, 3) := by decide +kernel
theorem dX11_house_7 : decode cX11_house 7 = .ok (.astore_n 3, 1) := by decide +kernel
theorem dX11_house_8 : decode cX11_house 8 = .ok (.aload_n 0, 1) := by decide +kernel
theorem dX11_house_9 : decode cX11_house 9 = .ok (.getfield 19, 3) := by decide +kernel
theorem dX11_house_12 : decode cX11_house 12 = .ok (.getfield 34, 3) := by decide +kernel
theorem dX11_house_15 : decode cX11_house 15 = .ok (.iload_n 1, 1) := by decide +kernel
theorem dX11_house_16 : decode cX11_house 16 = .ok (.invokevirtual 143, 3) := by decide +kernel
theorem dX11_house_19 : decode cX11_house 19 = .ok (.ifCond .ne 5, 3) := by decide +kernel
theorem dX11_house_22 : decode cX11_house 22 = .ok (.iconst (-1), 1) := by decide +kernel
theorem dX11_house_23 : decode cX11_house 23 = .ok (.ireturn, 1) := by decide +kernel
theorem dX11_house_24 : decode cX11_house 24 = .ok (.iload_n 2, 1) := by decide +kernel
theorem dX11_house_25 : decode cX11_house 25 = .ok (.tableswitch 79 0 4 #[35, 47, 59, 65, 72], 35) := by decide +kernel
theorem dX11_house_60 : decode cX11_house 60 = .ok (.aload_n 0, 1) := by decide +kernel
theorem dX11_house_61 : decode cX11_house 61 = .ok (.getfield 19, 3) := by decide +kernel
theorem dX11_house_64 : decode cX11_house 64 = .ok (.getfield 34, 3) := by decide +kernel
theorem dX11_house_67 : decode cX11_house 67 = .ok (.iload_n 1, 1) := by decide +kernel
theorem dX11_house_68 : decode cX11_house 68 = .ok (.invokevirtual 149, 3) := by decide +kernel
theorem dX11_house_71 : decode cX11_house 71 = .ok (.ireturn, 1) := by decide +kernel
theorem dX11_house_72 : decode cX11_house 72 = .ok (.aload_n 0, 1) := by decide +kernel
theorem dX11_house_73 : decode cX11_house 73 = .ok (.getfield 19, 3) := by decide +kernel
theorem dX11_house_76 : decode cX11_house 76 = .ok (.getfield 34, 3) := by decide +kernel
theorem dX11_house_79 : decode cX11_house 79 = .ok (.iload_n 1, 1) := by decide +kernel
theorem dX11_house_80 : decode cX11_house 80 = .ok (.invokevirtual 153, 3) := by decide +kernel
theorem dX11_house_83 : decode cX11_house 83 = .ok (.ireturn, 1) := by decide +kernel
theorem dX11_house_84 : decode cX11_house 84 = .ok (.aload_n 3, 1) := by decide +kernel
theorem dX11_house_85 : decode cX11_house 85 = .ok (.iload_n 1, 1) := by decide +kernel
theorem dX11_house_86 : decode cX11_house 86 = .ok (.invokevirtual 156, 3) := by decide +kernel
theorem dX11_house_89 : decode cX11_house 89 = .ok (.ireturn, 1) := by decide +kernel
theorem dX11_house_90 : decode cX11_house 90 = .ok (.aload_n 3, 1) := by decide +kernel
theorem dX11_house_91 : decode cX11_house 91 = .ok (.iload_n 1, 1) := by decide +kernel
theorem dX11_house_92 : decode cX11_house 92 = .ok (.iconst 1, 1) := by decide +kernel
theorem dX11_house_93 : decode cX11_house 93 = .ok (.invokevirtual 159, 3) := by decide +kernel
theorem dX11_house_96 : decode cX11_house 96 = .ok (.ireturn, 1) := by decide +kernel
theorem dX11_house_97 : decode cX11_house 97 = .ok (.aload_n 3, 1) := by decide +kernel
theorem dX11_house_98 : decode cX11_house 98 = .ok (.iload_n 1, 1) := by decide +kernel
theorem dX11_house_99 : decode cX11_house 99 = .ok (.iconst 2, 1) := by decide +kernel
theorem dX11_house_100 : decode cX11_house 100 = .ok (.invokevirtual 159, 3) := by decide +kernel
theorem dX11_house_103 : decode cX11_house 103 = .ok (.ireturn, 1) := by decide +kernel
theorem dX11_house_104 : decode cX11_house 104 = .ok (.iconst (-1), 1) := by decide +kernel
theorem dX11_house_105 : decode cX11_house 105 = .ok (.ireturn, 1) := by decide +kernel
theorem dX11_person_0 : decode cX11_person 0 = .ok (.aload_n 0, 1) := by decide +kernel
theorem dX11_person_1 : decode cX11_person 1 = .ok (.getfield 19, 3) := by decide +kernel
theorem dX11_person_4 : decode cX11_person 4 = .ok (.getfield 34, 3) := by decide +kernel
theorem dX11_person_7 : decode cX11_person 7 = .ok (.iload_n 1, 1) := by decide +kernel
theorem dX11_person_8 : decode cX11_person 8 = .ok (.invokevirtual 163, 3) := by decide +kernel
theorem dX11_person_11 : decode cX11_person 11 = .ok (.ifCond .eq 13, 3) := by decide +kernel
theorem dX11_person_14 : decode cX11_person 14 = .ok (.iload_n 2, 1) := by decide +kernel
theorem dX11_person_15 : decode cX11_person 15 = .ok (.ifCond .lt 9, 3) := by decide +kernel
theorem dX11_person_18 : decode cX11_person 18 = .ok (.iload_n 2, 1) := by decide +kernel
theorem dX11_person_19 : decode cX11_person 19 = .ok (.bipush 10, 2) := by decide +kernel
theorem dX11_person_21 : decode cX11_person 21 = .ok (.if_icmp .le 11, 3) := by decide +kernel
theorem dX11_person_24 : decode cX11_person 24 = .ok (.new 166, 3) := by decide +kernel
theorem dX11_person_27 : decode cX11_person 27 = .ok (.dup, 1) := by decide +kernel
theorem dX11_person_28 : decode cX11_person 28 = .ok (.invokespecial 168, 3) := by decide +kernel
theorem dX11_person_31 : decode cX11_person 31 = .ok (.athrow, 1) := by decide +kernel
theorem dX11_person_32 : decode cX11_person 32 = .ok (.aload_n 0, 1) := by decide +kernel
theorem dX11_person_33 : decode cX11_person 33 = .ok (.getfield 19, 3) := by decide +kernel
theorem dX11_person_36 : decode cX11_person 36 = .ok (.getfield 140, 3) := by decide +kernel
theorem dX11_person_39 : decode cX11_person 39 = .ok (.iload_n 1, 1) := by decide +kernel
theorem dX11_person_40 : decode cX11_person 40 = .ok (.iload_n 2, 1) := by decide +kernel
theorem dX11_person_41 : decode cX11_person 41 = .ok (.invokevirtual 169, 3) := by decide +kernel
theorem dX11_person_44 : decode cX11_person 44 = .ok (.ireturn, 1) := by decide +kernel
theorem dX11_call_0 : decode cX11_call 0 = .ok (.aload_n 0, 1) := by decide +kernel
theorem dX11_call_1 : decode cX11_call 1 = .ok (.getfield 19, 3) := by decide +kernel
theorem dX11_call_4 : decode cX11_call 4 = .ok (.getfield 140, 3) := by decide +kernel
theorem dX11_call_7 : decode cX11_call 7 = .ok (.astore_n 3, 1) := by decide +kernel
theorem dX11_call_8 : decode cX11_call 8 = .ok (.iload_n 1, 1) := by decide +kernel
theorem dX11_call_9 : decode cX11_call 9 = .ok (.ifCond .lt 17, 3) := by decide +kernel
theorem dX11_call_12 : decode cX11_call 12 = .ok (.iload_n 1, 1) := by decide +kernel
theorem dX11_call_13 : decode cX11_call 13 = .ok (.aload_n 3, 1) := by decide +kernel
theorem dX11_call_14 : decode cX11_call 14 = .ok (.getfield 172, 3) := by decide +kernel
theorem dX11_call_17 : decode cX11_call 17 = .ok (.if_icmp .ge 9, 3) := by decide +kernel
theorem dX11_call_20 : decode cX11_call 20 = .ok (.iload_n 1, 1) := by decide +kernel
theorem dX11_call_21 : decode cX11_call 21 = .ok (.bipush 12, 2) := by decide +kernel
theorem dX11_call_23 : decode cX11_call 23 = .ok (.if_icmp .lt 5, 3) := by decide +kernel
theorem dX11_call_26 : decode cX11_call 26 = .ok (.iconst (-1), 1) := by decide +kernel
theorem dX11_call_27 : decode cX11_call 27 = .ok (.ireturn, 1) := by decide +kernel
theorem dX11_call_28 : decode cX11_call 28 = .ok (.iload_n 2, 1) := by decide +kernel
theorem dX11_call_29 : decode cX11_call 29 = .ok (.lookupswitch 41 #[(0, 27), (1, 34)], 27) := by decide +kernel
theorem dX11_call_56 : decode cX11_call 56 = .ok (.aload_n 3, 1) := by decide +kernel
theorem dX11_call_57 : decode cX11_call 57 = .ok (.getfield 175, 3) := by decide +kernel
theorem dX11_call_60 : decode cX11_call 60 = .ok (.iload_n 1, 1) := by decide +kernel
theorem dX11_call_61 : decode cX11_call 61 = .ok (.iaload, 1) := by decide +kernel
theorem dX11_call_62 : decode cX11_call 62 = .ok (.ireturn, 1) := by decide +kernel
theorem dX11_call_63 : decode cX11_call 63 = .ok (.aload_n 3, 1) := by decide +kernel
theorem dX11_call_64 : decode cX11_call 64 = .ok (.getfield 179, 3) := by decide +kernel
theorem dX11_call_67 : decode cX11_call 67 = .ok (.iload_n 1, 1) := by decide +kernel
theorem dX11_call_68 : decode cX11_call 68 = .ok (.iaload, 1) := by decide +kernel
theorem dX11_call_69 : decode cX11_call 69 = .ok (.ireturn, 1) := by decide +kernel
theorem dX11_call_70 : decode cX11_call 70 = .ok (.iconst (-1), 1) := by decide +kernel
theorem dX11_call_71 : decode cX11_call 71 = .ok (.ireturn, 1) := by decide +kernel
theorem dX11_now_0 : decode cX11_now 0 = .ok (.aload_n 0, 1) := by decide +kernel
theorem dX11_now_1 : decode cX11_now 1 = .ok (.getfield 19, 3) := by decide +kernel
theorem dX11_now_4 : decode cX11_now 4 = .ok (.getfield 140, 3) := by decide +kernel
theorem dX11_now_7 : decode cX11_now 7 = .ok (.astore_n 2, 1) := by decide +kernel
theorem dX11_now_8 : decode cX11_now 8 = .ok (.iload_n 1, 1) := by decide +kernel
theorem dX11_now_9 : decode cX11_now 9 = .ok (.tableswitch 90 0 7 #[47, 52, 58, 64, 70, 75, 80, 85], 47) := by decide +kernel
theorem dX11_now_56 : decode cX11_now 56 = .ok (.aload_n 2, 1) := by decide +kernel
theorem dX11_now_57 : decode cX11_now 57 = .ok (.getfield 182, 3) := by decide +kernel
theorem dX11_now_60 : decode cX11_now 60 = .ok (.ireturn, 1) := by decide +kernel
theorem dX11_now_61 : decode cX11_now 61 = .ok (.aload_n 2, 1) := by decide +kernel
theorem dX11_now_62 : decode cX11_now 62 = .ok (.iconst 0, 1) := by decide +kernel
theorem dX11_now_63 : decode cX11_now 63 = .ok (.invokevirtual 185, 3) := by decide +kernel
theorem dX11_now_66 : decode cX11_now 66 = .ok (.ireturn, 1) := by decide +kernel
theorem dX11_now_67 : decode cX11_now 67 = .ok (.aload_n 2, 1) := by decide +kernel
theorem dX11_now_68 : decode cX11_now 68 = .ok (.iconst 1, 1) := by decide +kernel
theorem dX11_now_69 : decode cX11_now 69 = .ok (.invokevirtual 185, 3) := by decide +kernel
theorem dX11_now_72 : decode cX11_now 72 = .ok (.ireturn, 1) := by decide +kernel
theorem dX11_now_73 : decode cX11_now 73 = .ok (.aload_n 2, 1) := by decide +kernel
theorem dX11_now_74 : decode cX11_now 74 = .ok (.iconst 2, 1) := by decide +kernel
theorem dX11_now_75 : decode cX11_now 75 = .ok (.invokevirtual 185, 3) := by decide +kernel
theorem dX11_now_78 : decode cX11_now 78 = .ok (.ireturn, 1) := by decide +kernel
theorem dX11_now_79 : decode cX11_now 79 = .ok (.aload_n 2, 1) := by decide +kernel
theorem dX11_now_80 : decode cX11_now 80 = .ok (.invokevirtual 188, 3) := by decide +kernel
theorem dX11_now_83 : decode cX11_now 83 = .ok (.ireturn, 1) := by decide +kernel
theorem dX11_now_84 : decode cX11_now 84 = .ok (.aload_n 2, 1) := by decide +kernel
theorem dX11_now_85 : decode cX11_now 85 = .ok (.getfield 172, 3) := by decide +kernel
theorem dX11_now_88 : decode cX11_now 88 = .ok (.ireturn, 1) := by decide +kernel
theorem dX11_now_89 : decode cX11_now 89 = .ok (.aload_n 2, 1) := by decide +kernel
theorem dX11_now_90 : decode cX11_now 90 = .ok (.invokevirtual 191, 3) := by decide +kernel
theorem dX11_now_93 : decode cX11_now 93 = .ok (.ireturn, 1) := by decide +kernel
theorem dX11_now_94 : decode cX11_now 94 = .ok (.aload_n 2, 1) := by decide +kernel
theorem dX11_now_95 : decode cX11_now 95 = .ok (.getfield 194, 3) := by decide +kernel
theorem dX11_now_98 : decode cX11_now 98 = .ok (.ireturn, 1) := by decide +kernel
theorem dX11_now_99 : decode cX11_now 99 = .ok (.iconst (-1), 1) := by decide +kernel
theorem dX11_now_100 : decode cX11_now 100 = .ok (.ireturn, 1) := by decide +kernel
theorem dX11_knock_0 : decode cX11_knock 0 = .ok (.aload_n 0, 1) := by decide +kernel
theorem dX11_knock_1 : decode cX11_knock 1 = .ok (.getfield 41, 3) := by decide +kernel
theorem dX11_knock_4 : decode cX11_knock 4 = .ok (.aload_n 0, 1) := by decide +kernel
theorem dX11_knock_5 : decode cX11_knock 5 = .ok (.getfield 19, 3) := by decide +kernel
theorem dX11_knock_8 : decode cX11_knock 8 = .ok (.getfield 140, 3) := by decide +kernel
theorem dX11_knock_11 : decode cX11_knock 11 = .ok (.invokevirtual 197, 3) := by decide +kernel
theorem dX11_knock_14 : decode cX11_knock 14 = .ok (.aload_n 0, 1) := by decide +kernel
theorem dX11_knock_15 : decode cX11_knock 15 = .ok (.getfield 41, 3) := by decide +kernel
theorem dX11_knock_18 : decode cX11_knock 18 = .ok (.aload_n 0, 1) := by decide +kernel
theorem dX11_knock_19 : decode cX11_knock 19 = .ok (.getfield 19, 3) := by decide +kernel
theorem dX11_knock_22 : decode cX11_knock 22 = .ok (.getfield 140, 3) := by decide +kernel
theorem dX11_knock_25 : decode cX11_knock 25 = .ok (.iload_n 1, 1) := by decide +kernel
theorem dX11_knock_26 : decode cX11_knock 26 = .ok (.iload_n 2, 1) := by decide +kernel
theorem dX11_knock_27 : decode cX11_knock 27 = .ok (.invokevirtual 201, 3) := by decide +kernel
theorem dX11_knock_30 : decode cX11_knock 30 = .ok (.invokevirtual 204, 3) := by decide +kernel
theorem dX11_knock_33 : decode cX11_knock 33 = .ok (.ireturn, 1) := by decide +kernel
theorem dX11_go_0 : decode cX11_go 0 = .ok (.aload_n 0, 1) := by decide +kernel
theorem dX11_go_1 : decode cX11_go 1 = .ok (.getfield 41, 3) := by decide +kernel
theorem dX11_go_4 : decode cX11_go 4 = .ok (.aload_n 0, 1) := by decide +kernel
theorem dX11_go_5 : decode cX11_go 5 = .ok (.getfield 19, 3) := by decide +kernel
theorem dX11_go_8 : decode cX11_go 8 = .ok (.getfield 140, 3) := by decide +kernel
theorem dX11_go_11 : decode cX11_go 11 = .ok (.invokevirtual 197, 3) := by decide +kernel
theorem dX11_go_14 : decode cX11_go 14 = .ok (.aload_n 0, 1) := by decide +kernel
theorem dX11_go_15 : decode cX11_go 15 = .ok (.getfield 41, 3) := by decide +kernel
theorem dX11_go_18 : decode cX11_go 18 = .ok (.aload_n 0, 1) := by decide +kernel
theorem dX11_go_19 : decode cX11_go 19 = .ok (.getfield 19, 3) := by decide +kernel
theorem dX11_go_22 : decode cX11_go 22 = .ok (.getfield 140, 3) := by decide +kernel
theorem dX11_go_25 : decode cX11_go 25 = .ok (.iload_n 1, 1) := by decide +kernel
theorem dX11_go_26 : decode cX11_go 26 = .ok (.iload_n 2, 1) := by decide +kernel
theorem dX11_go_27 : decode cX11_go 27 = .ok (.invokevirtual 207, 3) := by decide +kernel
theorem dX11_go_30 : decode cX11_go 30 = .ok (.invokevirtual 204, 3) := by decide +kernel
theorem dX11_go_33 : decode cX11_go 33 = .ok (.ireturn, 1) := by decide +kernel
theorem dX11_quit_0 : decode cX11_quit 0 = .ok (.aload_n 0, 1) := by decide +kernel
theorem dX11_quit_1 : decode cX11_quit 1 = .ok (.getfield 41, 3) := by decide +kernel
theorem dX11_quit_4 : decode cX11_quit 4 = .ok (.aload_n 0, 1) := by decide +kernel
theorem dX11_quit_5 : decode cX11_quit 5 = .ok (.getfield 19, 3) := by decide +kernel
theorem dX11_quit_8 : decode cX11_quit 8 = .ok (.getfield 140, 3) := by decide +kernel
theorem dX11_quit_11 : decode cX11_quit 11 = .ok (.invokevirtual 197, 3) := by decide +kernel
theorem dX11_quit_14 : decode cX11_quit 14 = .ok (.aload_n 0, 1) := by decide +kernel
theorem dX11_quit_15 : decode cX11_quit 15 = .ok (.getfield 41, 3) := by decide +kernel
theorem dX11_quit_18 : decode cX11_quit 18 = .ok (.aload_n 0, 1) := by decide +kernel
theorem dX11_quit_19 : decode cX11_quit 19 = .ok (.getfield 19, 3) := by decide +kernel
theorem dX11_quit_22 : decode cX11_quit 22 = .ok (.getfield 140, 3) := by decide +kernel
theorem dX11_quit_25 : decode cX11_quit 25 = .ok (.iload_n 1, 1) := by decide +kernel
theorem dX11_quit_26 : decode cX11_quit 26 = .ok (.invokevirtual 210, 3) := by decide +kernel
theorem dX11_quit_29 : decode cX11_quit 29 = .ok (.invokevirtual 204, 3) := by decide +kernel
theorem dX11_quit_32 : decode cX11_quit 32 = .ok (.ireturn, 1) := by decide +kernel
theorem dX11_meets_0 : decode cX11_meets 0 = .ok (.aload_n 0, 1) := by decide +kernel
theorem dX11_meets_1 : decode cX11_meets 1 = .ok (.getfield 41, 3) := by decide +kernel
theorem dX11_meets_4 : decode cX11_meets 4 = .ok (.aload_n 0, 1) := by decide +kernel
theorem dX11_meets_5 : decode cX11_meets 5 = .ok (.getfield 19, 3) := by decide +kernel
theorem dX11_meets_8 : decode cX11_meets 8 = .ok (.getfield 140, 3) := by decide +kernel
theorem dX11_meets_11 : decode cX11_meets 11 = .ok (.invokevirtual 197, 3) := by decide +kernel
theorem dX11_meets_14 : decode cX11_meets 14 = .ok (.aload_n 0, 1) := by decide +kernel
theorem dX11_meets_15 : decode cX11_meets 15 = .ok (.getfield 41, 3) := by decide +kernel
theorem dX11_meets_18 : decode cX11_meets 18 = .ok (.aload_n 0, 1) := by decide +kernel
theorem dX11_meets_19 : decode cX11_meets 19 = .ok (.getfield 19, 3) := by decide +kernel
theorem dX11_meets_22 : decode cX11_meets 22 = .ok (.getfield 140, 3) := by decide +kernel
theorem dX11_meets_25 : decode cX11_meets 25 = .ok (.iload_n 1, 1) := by decide +kernel
theorem dX11_meets_26 : decode cX11_meets 26 = .ok (.iload_n 2, 1) := by decide +kernel
theorem dX11_meets_27 : decode cX11_meets 27 = .ok (.invokevirtual 213, 3) := by decide +kernel
theorem dX11_meets_30 : decode cX11_meets 30 = .ok (.invokevirtual 204, 3) := by decide +kernel
theorem dX11_meets_33 : decode cX11_meets 33 = .ok (.ireturn, 1) := by decide +kernel
theorem dX11_calls_0 : decode cX11_calls 0 = .ok (.aload_n 0, 1) := by decide +kernel
theorem dX11_calls_1 : decode cX11_calls 1 = .ok (.getfield 41, 3) := by decide +kernel
theorem dX11_calls_4 : decode cX11_calls 4 = .ok (.aload_n 0, 1) := by decide +kernel
theorem dX11_calls_5 : decode cX11_calls 5 = .ok (.getfield 19, 3) := by decide +kernel
theorem dX11_calls_8 : decode cX11_calls 8 = .ok (.getfield 140, 3) := by decide +kernel
theorem dX11_calls_11 : decode cX11_calls 11 = .ok (.invokevirtual 197, 3) := by decide +kernel
theorem dX11_calls_14 : decode cX11_calls 14 = .ok (.aload_n 0, 1) := by decide +kernel
theorem dX11_calls_15 : decode cX11_calls 15 = .ok (.getfield 41, 3) := by decide +kernel
theorem dX11_calls_18 : decode cX11_calls 18 = .ok (.aload_n 0, 1) := by decide +kernel
theorem dX11_calls_19 : decode cX11_calls 19 = .ok (.getfield 19, 3) := by decide +kernel
theorem dX11_calls_22 : decode cX11_calls 22 = .ok (.getfield 140, 3) := by decide +kernel
theorem dX11_calls_25 : decode cX11_calls 25 = .ok (.iload_n 1, 1) := by decide +kernel
theorem dX11_calls_26 : decode cX11_calls 26 = .ok (.iload_n 2, 1) := by decide +kernel
theorem dX11_calls_27 : decode cX11_calls 27 = .ok (.invokevirtual 216, 3) := by decide +kernel
theorem dX11_calls_30 : decode cX11_calls 30 = .ok (.invokevirtual 204, 3) := by decide +kernel
theorem dX11_calls_33 : decode cX11_calls 33 = .ok (.ireturn, 1) := by decide +kernel
theorem dX11_ticks_0 : decode cX11_ticks 0 = .ok (.iload_n 1, 1) := by decide +kernel
theorem dX11_ticks_1 : decode cX11_ticks 1 = .ok (.iconst 1, 1) := by decide +kernel
theorem dX11_ticks_2 : decode cX11_ticks 2 = .ok (.if_icmp .lt 9, 3) := by decide +kernel
theorem dX11_ticks_5 : decode cX11_ticks 5 = .ok (.iload_n 1, 1) := by decide +kernel
theorem dX11_ticks_6 : decode cX11_ticks 6 = .ok (.bipush 60, 2) := by decide +kernel
theorem dX11_ticks_8 : decode cX11_ticks 8 = .ok (.if_icmp .le 5, 3) := by decide +kernel
theorem dX11_ticks_11 : decode cX11_ticks 11 = .ok (.iconst (-1), 1) := by decide +kernel
theorem dX11_ticks_12 : decode cX11_ticks 12 = .ok (.ireturn, 1) := by decide +kernel
theorem dX11_ticks_13 : decode cX11_ticks 13 = .ok (.aload_n 0, 1) := by decide +kernel
theorem dX11_ticks_14 : decode cX11_ticks 14 = .ok (.getfield 41, 3) := by decide +kernel
theorem dX11_ticks_17 : decode cX11_ticks 17 = .ok (.aload_n 0, 1) := by decide +kernel
theorem dX11_ticks_18 : decode cX11_ticks 18 = .ok (.getfield 19, 3) := by decide +kernel
theorem dX11_ticks_21 : decode cX11_ticks 21 = .ok (.getfield 140, 3) := by decide +kernel
theorem dX11_ticks_24 : decode cX11_ticks 24 = .ok (.invokevirtual 197, 3) := by decide +kernel
theorem dX11_ticks_27 : decode cX11_ticks 27 = .ok (.aload_n 0, 1) := by decide +kernel
theorem dX11_ticks_28 : decode cX11_ticks 28 = .ok (.getfield 41, 3) := by decide +kernel
theorem dX11_ticks_31 : decode cX11_ticks 31 = .ok (.aload_n 0, 1) := by decide +kernel
theorem dX11_ticks_32 : decode cX11_ticks 32 = .ok (.getfield 19, 3) := by decide +kernel
theorem dX11_ticks_35 : decode cX11_ticks 35 = .ok (.getfield 140, 3) := by decide +kernel
theorem dX11_ticks_38 : decode cX11_ticks 38 = .ok (.iload_n 1, 1) := by decide +kernel
theorem dX11_ticks_39 : decode cX11_ticks 39 = .ok (.invokevirtual 219, 3) := by decide +kernel
theorem dX11_ticks_42 : decode cX11_ticks 42 = .ok (.invokevirtual 222, 3) := by decide +kernel
theorem dX11_ticks_45 : decode cX11_ticks 45 = .ok (.ireturn, 1) := by decide +kernel
theorem dX11_undo_0 : decode cX11_undo 0 = .ok (.aload_n 0, 1) := by decide +kernel
theorem dX11_undo_1 : decode cX11_undo 1 = .ok (.getfield 41, 3) := by decide +kernel
theorem dX11_undo_4 : decode cX11_undo 4 = .ok (.aload_n 0, 1) := by decide +kernel
theorem dX11_undo_5 : decode cX11_undo 5 = .ok (.getfield 19, 3) := by decide +kernel
theorem dX11_undo_8 : decode cX11_undo 8 = .ok (.getfield 140, 3) := by decide +kernel
theorem dX11_undo_11 : decode cX11_undo 11 = .ok (.invokevirtual 225, 3) := by decide +kernel
theorem dX11_undo_14 : decode cX11_undo 14 = .ok (.ireturn, 1) := by decide +kernel
theorem dX11_answer_0 : decode cX11_answer 0 = .ok (.aload_n 0, 1) := by decide +kernel
theorem dX11_answer_1 : decode cX11_answer 1 = .ok (.getfield 19, 3) := by decide +kernel
theorem dX11_answer_4 : decode cX11_answer 4 = .ok (.getfield 140, 3) := by decide +kernel
theorem dX11_answer_7 : decode cX11_answer 7 = .ok (.iload_n 1, 1) := by decide +kernel
theorem dX11_answer_8 : decode cX11_answer 8 = .ok (.invokevirtual 229, 3) := by decide +kernel
theorem dX11_answer_11 : decode cX11_answer 11 = .ok (.ifCond .ne 5, 3) := by decide +kernel
theorem dX11_answer_14 : decode cX11_answer 14 = .ok (.iconst (-1), 1) := by decide +kernel
theorem dX11_answer_15 : decode cX11_answer 15 = .ok (.ireturn, 1) := by decide +kernel
theorem dX11_answer_16 : decode cX11_answer 16 = .ok (.aload_n 0, 1) := by decide +kernel
theorem dX11_answer_17 : decode cX11_answer 17 = .ok (.getfield 19, 3) := by decide +kernel
theorem dX11_answer_20 : decode cX11_answer 20 = .ok (.getfield 140, 3) := by decide +kernel
theorem dX11_answer_23 : decode cX11_answer 23 = .ok (.iload_n 1, 1) := by decide +kernel
theorem dX11_answer_24 : decode cX11_answer 24 = .ok (.iconst 0, 1) := by decide +kernel
theorem dX11_answer_25 : decode cX11_answer 25 = .ok (.invokevirtual 232, 3) := by decide +kernel
theorem dX11_answer_28 : decode cX11_answer 28 = .ok (.ireturn, 1) := by decide +kernel
theorem dX11_most_0 : decode cX11_most 0 = .ok (.aload_n 0, 1) := by decide +kernel
theorem dX11_most_1 : decode cX11_most 1 = .ok (.aload_n 0, 1) := by decide +kernel
theorem dX11_most_2 : decode cX11_most 2 = .ok (.getfield 73, 3) := by decide +kernel
theorem dX11_most_5 : decode cX11_most 5 = .ok (.aload_n 0, 1) := by decide +kernel
theorem dX11_most_6 : decode cX11_most 6 = .ok (.getfield 19, 3) := by decide +kernel
theorem dX11_most_9 : decode cX11_most 9 = .ok (.getfield 140, 3) := by decide +kernel
theorem dX11_most_12 : decode cX11_most 12 = .ok (.invokevirtual 235, 3) := by decide +kernel
theorem dX11_most_15 : decode cX11_most 15 = .ok (.putfield 97, 3) := by decide +kernel
theorem dX11_most_18 : decode cX11_most 18 = .ok (.aload_n 0, 1) := by decide +kernel
theorem dX11_most_19 : decode cX11_most 19 = .ok (.getfield 97, 3) := by decide +kernel
theorem dX11_most_22 : decode cX11_most 22 = .ok (.invokestatic 238, 3) := by decide +kernel
theorem dX11_most_25 : decode cX11_most 25 = .ok (.ireturn, 1) := by decide +kernel
theorem dX11_those_0 : decode cX11_those 0 = .ok (.aload_n 0, 1) := by decide +kernel
theorem dX11_those_1 : decode cX11_those 1 = .ok (.getfield 97, 3) := by decide +kernel
theorem dX11_those_4 : decode cX11_those 4 = .ok (.ireturn, 1) := by decide +kernel
theorem dX11_chain_0 : decode cX11_chain 0 = .ok (.aload_n 0, 1) := by decide +kernel
theorem dX11_chain_1 : decode cX11_chain 1 = .ok (.getfield 19, 3) := by decide +kernel
theorem dX11_chain_4 : decode cX11_chain 4 = .ok (.getfield 34, 3) := by decide +kernel
theorem dX11_chain_7 : decode cX11_chain 7 = .ok (.iload_n 1, 1) := by decide +kernel
theorem dX11_chain_8 : decode cX11_chain 8 = .ok (.invokevirtual 163, 3) := by decide +kernel
theorem dX11_chain_11 : decode cX11_chain 11 = .ok (.ifCond .eq 17, 3) := by decide +kernel
theorem dX11_chain_14 : decode cX11_chain 14 = .ok (.aload_n 0, 1) := by decide +kernel
theorem dX11_chain_15 : decode cX11_chain 15 = .ok (.getfield 19, 3) := by decide +kernel
theorem dX11_chain_18 : decode cX11_chain 18 = .ok (.getfield 34, 3) := by decide +kernel
theorem dX11_chain_21 : decode cX11_chain 21 = .ok (.iload_n 2, 1) := by decide +kernel
theorem dX11_chain_22 : decode cX11_chain 22 = .ok (.invokevirtual 163, 3) := by decide +kernel
theorem dX11_chain_25 : decode cX11_chain 25 = .ok (.ifCond .ne 5, 3) := by decide +kernel
theorem dX11_chain_28 : decode cX11_chain 28 = .ok (.iconst (-1), 1) := by decide +kernel
theorem dX11_chain_29 : decode cX11_chain 29 = .ok (.ireturn, 1) := by decide +kernel
theorem dX11_chain_30 : decode cX11_chain 30 = .ok (.aload_n 0, 1) := by decide +kernel
theorem dX11_chain_31 : decode cX11_chain 31 = .ok (.getfield 80, 3) := by decide +kernel
theorem dX11_chain_34 : decode cX11_chain 34 = .ok (.aload_n 0, 1) := by decide +kernel
theorem dX11_chain_35 : decode cX11_chain 35 = .ok (.getfield 19, 3) := by decide +kernel
theorem dX11_chain_38 : decode cX11_chain 38 = .ok (.getfield 140, 3) := by decide +kernel
theorem dX11_chain_41 : decode cX11_chain 41 = .ok (.iload_n 1, 1) := by decide +kernel
theorem dX11_chain_42 : decode cX11_chain 42 = .ok (.iload_n 2, 1) := by decide +kernel
theorem dX11_chain_43 : decode cX11_chain 43 = .ok (.invokevirtual 243, 3) := by decide +kernel
theorem dX11_chain_46 : decode cX11_chain 46 = .ok (.ireturn, 1) := by decide +kernel
theorem dX11_chainAt_0 : decode cX11_chainAt 0 = .ok (.aload_n 0, 1) := by decide +kernel
theorem dX11_chainAt_1 : decode cX11_chainAt 1 = .ok (.getfield 80, 3) := by decide +kernel
theorem dX11_chainAt_4 : decode cX11_chainAt 4 = .ok (.iload_n 1, 1) := by decide +kernel
theorem dX11_chainAt_5 : decode cX11_chainAt 5 = .ok (.invokevirtual 247, 3) := by decide +kernel
theorem dX11_chainAt_8 : decode cX11_chainAt 8 = .ok (.ireturn, 1) := by decide +kernel
theorem dX11_who_0 : decode cX11_who 0 = .ok (.aload_n 0, 1) := by decide +kernel
theorem dX11_who_1 : decode cX11_who 1 = .ok (.invokevirtual 250, 3) := by decide +kernel
theorem dX11_who_4 : decode cX11_who 4 = .ok (.istore_n 1, 1) := by decide +kernel
theorem dX11_who_5 : decode cX11_who 5 = .ok (.aload_n 0, 1) := by decide +kernel
theorem dX11_who_6 : decode cX11_who 6 = .ok (.getfield 10, 3) := by decide +kernel
theorem dX11_who_9 : decode cX11_who 9 = .ok (.iconst 0, 1) := by decide +kernel
theorem dX11_who_10 : decode cX11_who 10 = .ok (.putfield 104, 3) := by decide +kernel
theorem dX11_who_13 : decode cX11_who 13 = .ok (.iload_n 1, 1) := by decide +kernel
theorem dX11_who_14 : decode cX11_who 14 = .ok (.ifCond .le 18, 3) := by decide +kernel
theorem dX11_who_17 : decode cX11_who 17 = .ok (.aload_n 0, 1) := by decide +kernel
theorem dX11_who_18 : decode cX11_who 18 = .ok (.aload_n 0, 1) := by decide +kernel
theorem dX11_who_19 : decode cX11_who 19 = .ok (.getfield 19, 3) := by decide +kernel
theorem dX11_who_22 : decode cX11_who 22 = .ok (.getfield 140, 3) := by decide +kernel
theorem dX11_who_25 : decode cX11_who 25 = .ok (.iload_n 1, 1) := by decide +kernel
theorem dX11_who_26 : decode cX11_who 26 = .ok (.invokevirtual 253, 3) := by decide +kernel
theorem dX11_who_29 : decode cX11_who 29 = .ok (.putfield 101, 3) := by decide +kernel
theorem dX11_who_32 : decode cX11_who 32 = .ok (.iload_n 1, 1) := by decide +kernel
theorem dX11_who_33 : decode cX11_who 33 = .ok (.ireturn, 1) := by decide +kernel
theorem dX11_ask_0 : decode cX11_ask 0 = .ok (.aload_n 0, 1) := by decide +kernel
theorem dX11_ask_1 : decode cX11_ask 1 = .ok (.getfield 101, 3) := by decide +kernel
theorem dX11_ask_4 : decode cX11_ask 4 = .ok (.ireturn, 1) := by decide +kernel
theorem dX11_opens_0 : decode cX11_opens 0 = .ok (.aload_n 0, 1) := by decide +kernel
theorem dX11_opens_1 : decode cX11_opens 1 = .ok (.getfield 19, 3) := by decide +kernel
theorem dX11_opens_4 : decode cX11_opens 4 = .ok (.getfield 140, 3) := by decide +kernel
theorem dX11_opens_7 : decode cX11_opens 7 = .ok (.iload_n 1, 1) := by decide +kernel
theorem dX11_opens_8 : decode cX11_opens 8 = .ok (.invokevirtual 229, 3) := by decide +kernel
theorem dX11_opens_11 : decode cX11_opens 11 = .ok (.ifCond .ne 5, 3) := by decide +kernel
theorem dX11_opens_14 : decode cX11_opens 14 = .ok (.iconst (-1), 1) := by decide +kernel
theorem dX11_opens_15 : decode cX11_opens 15 = .ok (.ireturn, 1) := by decide +kernel
theorem dX11_opens_16 : decode cX11_opens 16 = .ok (.aload_n 0, 1) := by decide +kernel
theorem dX11_opens_17 : decode cX11_opens 17 = .ok (.getfield 48, 3) := by decide +kernel
theorem dX11_opens_20 : decode cX11_opens 20 = .ok (.aload_n 0, 1) := by decide +kernel
theorem dX11_opens_21 : decode cX11_opens 21 = .ok (.getfield 19, 3) := by decide +kernel
theorem dX11_opens_24 : decode cX11_opens 24 = .ok (.getfield 140, 3) := by decide +kernel
theorem dX11_opens_27 : decode cX11_opens 27 = .ok (.invokevirtual 256, 3) := by decide +kernel
theorem dX11_opens_30 : decode cX11_opens 30 = .ok (.iconst 1, 1) := by decide +kernel
theorem dX11_opens_31 : decode cX11_opens 31 = .ok (.istore_n 2, 1) := by decide +kernel
theorem dX11_opens_32 : decode cX11_opens 32 = .ok (.iload_n 2, 1) := by decide +kernel
theorem dX11_opens_33 : decode cX11_opens 33 = .ok (.sipush 300, 3) := by decide +kernel
theorem dX11_opens_36 : decode cX11_opens 36 = .ok (.if_icmp .gt 40, 3) := by decide +kernel
theorem dX11_opens_39 : decode cX11_opens 39 = .ok (.aload_n 0, 1) := by decide +kernel
theorem dX11_opens_40 : decode cX11_opens 40 = .ok (.getfield 48, 3) := by decide +kernel
theorem dX11_opens_43 : decode cX11_opens 43 = .ok (.iload_n 1, 1) := by decide +kernel
theorem dX11_opens_44 : decode cX11_opens 44 = .ok (.invokevirtual 229, 3) := by decide +kernel
theorem dX11_opens_47 : decode cX11_opens 47 = .ok (.ifCond .eq 29, 3) := by decide +kernel
theorem dX11_opens_50 : decode cX11_opens 50 = .ok (.aload_n 0, 1) := by decide +kernel
theorem dX11_opens_51 : decode cX11_opens 51 = .ok (.getfield 48, 3) := by decide +kernel
theorem dX11_opens_54 : decode cX11_opens 54 = .ok (.invokevirtual 258, 3) := by decide +kernel
theorem dX11_opens_57 : decode cX11_opens 57 = .ok (.aload_n 0, 1) := by decide +kernel
theorem dX11_opens_58 : decode cX11_opens 58 = .ok (.getfield 48, 3) := by decide +kernel
theorem dX11_opens_61 : decode cX11_opens 61 = .ok (.iload_n 1, 1) := by decide +kernel
theorem dX11_opens_62 : decode cX11_opens 62 = .ok (.invokevirtual 261, 3) := by decide +kernel
theorem dX11_opens_65 : decode cX11_opens 65 = .ok (.ifCond .eq 5, 3) := by decide +kernel
theorem dX11_opens_68 : decode cX11_opens 68 = .ok (.iload_n 2, 1) := by decide +kernel
theorem dX11_opens_69 : decode cX11_opens 69 = .ok (.ireturn, 1) := by decide +kernel
theorem dX11_opens_70 : decode cX11_opens 70 = .ok (.iinc 2 1, 3) := by decide +kernel
theorem dX11_opens_73 : decode cX11_opens 73 = .ok (.goto (-41), 3) := by decide +kernel
theorem dX11_opens_76 : decode cX11_opens 76 = .ok (.iconst (-1), 1) := by decide +kernel
theorem dX11_opens_77 : decode cX11_opens 77 = .ok (.ireturn, 1) := by decide +kernel
theorem dX11_known_0 : decode cX11_known 0 = .ok (.aload_n 0, 1) := by decide +kernel
theorem dX11_known_1 : decode cX11_known 1 = .ok (.getfield 48, 3) := by decide +kernel
theorem dX11_known_4 : decode cX11_known 4 = .ok (.aload_n 0, 1) := by decide +kernel
theorem dX11_known_5 : decode cX11_known 5 = .ok (.getfield 19, 3) := by decide +kernel
theorem dX11_known_8 : decode cX11_known 8 = .ok (.getfield 140, 3) := by decide +kernel
theorem dX11_known_11 : decode cX11_known 11 = .ok (.invokevirtual 256, 3) := by decide +kernel
theorem dX11_known_14 : decode cX11_known 14 = .ok (.iconst 0, 1) := by decide +kernel
theorem dX11_known_15 : decode cX11_known 15 = .ok (.istore_n 1, 1) := by decide +kernel
theorem dX11_known_16 : decode cX11_known 16 = .ok (.iload_n 1, 1) := by decide +kernel
theorem dX11_known_17 : decode cX11_known 17 = .ok (.sipush 300, 3) := by decide +kernel
theorem dX11_known_20 : decode cX11_known 20 = .ok (.if_icmp .gt 28, 3) := by decide +kernel
theorem dX11_known_23 : decode cX11_known 23 = .ok (.aload_n 0, 1) := by decide +kernel
theorem dX11_known_24 : decode cX11_known 24 = .ok (.getfield 48, 3) := by decide +kernel
theorem dX11_known_27 : decode cX11_known 27 = .ok (.invokevirtual 188, 3) := by decide +kernel
theorem dX11_known_30 : decode cX11_known 30 = .ok (.ifCond .ne 5, 3) := by decide +kernel
theorem dX11_known_33 : decode cX11_known 33 = .ok (.iload_n 1, 1) := by decide +kernel
theorem dX11_known_34 : decode cX11_known 34 = .ok (.ireturn, 1) := by decide +kernel
theorem dX11_known_35 : decode cX11_known 35 = .ok (.aload_n 0, 1) := by decide +kernel
theorem dX11_known_36 : decode cX11_known 36 = .ok (.getfield 48, 3) := by decide +kernel
theorem dX11_known_39 : decode cX11_known 39 = .ok (.invokevirtual 258, 3) := by decide +kernel
theorem dX11_known_42 : decode cX11_known 42 = .ok (.iinc 1 1, 3) := by decide +kernel
theorem dX11_known_45 : decode cX11_known 45 = .ok (.goto (-29), 3) := by decide +kernel
theorem dX11_known_48 : decode cX11_known 48 = .ok (.iconst (-1), 1) := by decide +kernel
theorem dX11_known_49 : decode cX11_known 49 = .ok (.ireturn, 1) := by decide +kernel
theorem dX11_meet_0 : decode cX11_meet 0 = .ok (.iload_n 1, 1) := by decide +kernel
theorem dX11_meet_1 : decode cX11_meet 1 = .ok (.iload_n 2, 1) := by decide +kernel
theorem dX11_meet_2 : decode cX11_meet 2 = .ok (.if_icmp .eq 31, 3) := by decide +kernel
theorem dX11_meet_5 : decode cX11_meet 5 = .ok (.aload_n 0, 1) := by decide +kernel
theorem dX11_meet_6 : decode cX11_meet 6 = .ok (.getfield 19, 3) := by decide +kernel
theorem dX11_meet_9 : decode cX11_meet 9 = .ok (.getfield 34, 3) := by decide +kernel
theorem dX11_meet_12 : decode cX11_meet 12 = .ok (.iload_n 1, 1) := by decide +kernel
theorem dX11_meet_13 : decode cX11_meet 13 = .ok (.invokevirtual 163, 3) := by decide +kernel
theorem dX11_meet_16 : decode cX11_meet 16 = .ok (.ifCond .eq 17, 3) := by decide +kernel
theorem dX11_meet_19 : decode cX11_meet 19 = .ok (.aload_n 0, 1) := by decide +kernel
theorem dX11_meet_20 : decode cX11_meet 20 = .ok (.getfield 19, 3) := by decide +kernel
theorem dX11_meet_23 : decode cX11_meet 23 = .ok (.getfield 34, 3) := by decide +kernel
theorem dX11_meet_26 : decode cX11_meet 26 = .ok (.iload_n 2, 1) := by decide +kernel
theorem dX11_meet_27 : decode cX11_meet 27 = .ok (.invokevirtual 163, 3) := by decide +kernel
theorem dX11_meet_30 : decode cX11_meet 30 = .ok (.ifCond .ne 5, 3) := by decide +kernel
theorem dX11_meet_33 : decode cX11_meet 33 = .ok (.iconst (-1), 1) := by decide +kernel
theorem dX11_meet_34 : decode cX11_meet 34 = .ok (.ireturn, 1) := by decide +kernel
theorem dX11_meet_35 : decode cX11_meet 35 = .ok (.aload_n 0, 1) := by decide +kernel
theorem dX11_meet_36 : decode cX11_meet 36 = .ok (.getfield 48, 3) := by decide +kernel
theorem dX11_meet_39 : decode cX11_meet 39 = .ok (.aload_n 0, 1) := by decide +kernel
theorem dX11_meet_40 : decode cX11_meet 40 = .ok (.getfield 19, 3) := by decide +kernel
theorem dX11_meet_43 : decode cX11_meet 43 = .ok (.getfield 140, 3) := by decide +kernel
theorem dX11_meet_46 : decode cX11_meet 46 = .ok (.invokevirtual 256, 3) := by decide +kernel
theorem dX11_meet_49 : decode cX11_meet 49 = .ok (.iconst 0, 1) := by decide +kernel
theorem dX11_meet_50 : decode cX11_meet 50 = .ok (.istore_n 3, 1) := by decide +kernel
theorem dX11_meet_51 : decode cX11_meet 51 = .ok (.iload_n 3, 1) := by decide +kernel
theorem dX11_meet_52 : decode cX11_meet 52 = .ok (.sipush 300, 3) := by decide +kernel
theorem dX11_meet_55 : decode cX11_meet 55 = .ok (.if_icmp .gt 30, 3) := by decide +kernel
theorem dX11_meet_58 : decode cX11_meet 58 = .ok (.aload_n 0, 1) := by decide +kernel
theorem dX11_meet_59 : decode cX11_meet 59 = .ok (.getfield 48, 3) := by decide +kernel
theorem dX11_meet_62 : decode cX11_meet 62 = .ok (.iload_n 1, 1) := by decide +kernel
theorem dX11_meet_63 : decode cX11_meet 63 = .ok (.iload_n 2, 1) := by decide +kernel
theorem dX11_meet_64 : decode cX11_meet 64 = .ok (.invokevirtual 264, 3) := by decide +kernel
theorem dX11_meet_67 : decode cX11_meet 67 = .ok (.ifCond .eq 5, 3) := by decide +kernel
theorem dX11_meet_70 : decode cX11_meet 70 = .ok (.iload_n 3, 1) := by decide +kernel
theorem dX11_meet_71 : decode cX11_meet 71 = .ok (.ireturn, 1) := by decide +kernel
theorem dX11_meet_72 : decode cX11_meet 72 = .ok (.aload_n 0, 1) := by decide +kernel
theorem dX11_meet_73 : decode cX11_meet 73 = .ok (.getfield 48, 3) := by decide +kernel
theorem dX11_meet_76 : decode cX11_meet 76 = .ok (.invokevirtual 258, 3) := by decide +kernel
theorem dX11_meet_79 : decode cX11_meet 79 = .ok (.iinc 3 1, 3) := by decide +kernel
theorem dX11_meet_82 : decode cX11_meet 82 = .ok (.goto (-31), 3) := by decide +kernel
theorem dX11_meet_85 : decode cX11_meet 85 = .ok (.iconst (-1), 1) := by decide +kernel
theorem dX11_meet_86 : decode cX11_meet 86 = .ok (.ireturn, 1) := by decide +kernel
theorem dX11_busiest_0 : decode cX11_busiest 0 = .ok (.aload_n 0, 1) := by decide +kernel
theorem dX11_busiest_1 : decode cX11_busiest 1 = .ok (.getfield 19, 3) := by decide +kernel
theorem dX11_busiest_4 : decode cX11_busiest 4 = .ok (.getfield 140, 3) := by decide +kernel
theorem dX11_busiest_7 : decode cX11_busiest 7 = .ok (.invokevirtual 268, 3) := by decide +kernel
theorem dX11_busiest_10 : decode cX11_busiest 10 = .ok (.ireturn, 1) := by decide +kernel
theorem dX11_mean_0 : decode cX11_mean 0 = .ok (.aload_n 0, 1) := by decide +kernel
theorem dX11_mean_1 : decode cX11_mean 1 = .ok (.getfield 19, 3) := by decide +kernel
theorem dX11_mean_4 : decode cX11_mean 4 = .ok (.getfield 34, 3) := by decide +kernel
theorem dX11_mean_7 : decode cX11_mean 7 = .ok (.getfield 271, 3) := by decide +kernel
theorem dX11_mean_10 : decode cX11_mean 10 = .ok (.istore_n 2, 1) := by decide +kernel
theorem dX11_mean_11 : decode cX11_mean 11 = .ok (.iload_n 2, 1) := by decide +kernel
theorem dX11_mean_12 : decode cX11_mean 12 = .ok (.iconst 1, 1) := by decide +kernel
theorem dX11_mean_13 : decode cX11_mean 13 = .ok (.if_icmp .lt 12, 3) := by decide +kernel
theorem dX11_mean_16 : decode cX11_mean 16 = .ok (.iload_n 1, 1) := by decide +kernel
theorem dX11_mean_17 : decode cX11_mean 17 = .ok (.ifCond .lt 8, 3) := by decide +kernel
theorem dX11_mean_20 : decode cX11_mean 20 = .ok (.iload_n 1, 1) := by decide +kernel
theorem dX11_mean_21 : decode cX11_mean 21 = .ok (.iconst 1, 1) := by decide +kernel
theorem dX11_mean_22 : decode cX11_mean 22 = .ok (.if_icmp .le 11, 3) := by decide +kernel
theorem dX11_mean_25 : decode cX11_mean 25 = .ok (.new 166, 3) := by decide +kernel
theorem dX11_mean_28 : decode cX11_mean 28 = .ok (.dup, 1) := by decide +kernel
theorem dX11_mean_29 : decode cX11_mean 29 = .ok (.invokespecial 168, 3) := by decide +kernel
theorem dX11_mean_32 : decode cX11_mean 32 = .ok (.athrow, 1) := by decide +kernel
theorem dX11_mean_33 : decode cX11_mean 33 = .ok (.aload_n 0, 1) := by decide +kernel
theorem dX11_mean_34 : decode cX11_mean 34 = .ok (.getfield 19, 3) := by decide +kernel
theorem dX11_mean_37 : decode cX11_mean 37 = .ok (.getfield 140, 3) := by decide +kernel
theorem dX11_mean_40 : decode cX11_mean 40 = .ok (.invokevirtual 274, 3) := by decide +kernel
theorem dX11_mean_43 : decode cX11_mean 43 = .ok (.istore_n 3, 1) := by decide +kernel
theorem dX11_mean_44 : decode cX11_mean 44 = .ok (.iload_n 3, 1) := by decide +kernel
theorem dX11_mean_45 : decode cX11_mean 45 = .ok (.iload_n 2, 1) := by decide +kernel
theorem dX11_mean_46 : decode cX11_mean 46 = .ok (.invokestatic 277, 3) := by decide +kernel
theorem dX11_mean_49 : decode cX11_mean 49 = .ok (.istore 4, 2) := by decide +kernel
theorem dX11_mean_51 : decode cX11_mean 51 = .ok (.iload 4, 2) := by decide +kernel
theorem dX11_mean_53 : decode cX11_mean 53 = .ok (.iconst 1, 1) := by decide +kernel
theorem dX11_mean_54 : decode cX11_mean 54 = .ok (.if_icmp .ge 5, 3) := by decide +kernel
theorem dX11_mean_57 : decode cX11_mean 57 = .ok (.iconst (-1), 1) := by decide +kernel
theorem dX11_mean_58 : decode cX11_mean 58 = .ok (.ireturn, 1) := by decide +kernel
theorem dX11_mean_59 : decode cX11_mean 59 = .ok (.iload_n 1, 1) := by decide +kernel
theorem dX11_mean_60 : decode cX11_mean 60 = .ok (.ifCond .ne 10, 3) := by decide +kernel
theorem dX11_mean_63 : decode cX11_mean 63 = .ok (.iload_n 3, 1) := by decide +kernel
theorem dX11_mean_64 : decode cX11_mean 64 = .ok (.iload 4, 2) := by decide +kernel
theorem dX11_mean_66 : decode cX11_mean 66 = .ok (.idiv, 1) := by decide +kernel
theorem dX11_mean_67 : decode cX11_mean 67 = .ok (.goto 7, 3) := by decide +kernel
theorem dX11_mean_70 : decode cX11_mean 70 = .ok (.iload_n 2, 1) := by decide +kernel
theorem dX11_mean_71 : decode cX11_mean 71 = .ok (.iload 4, 2) := by decide +kernel
theorem dX11_mean_73 : decode cX11_mean 73 = .ok (.idiv, 1) := by decide +kernel
theorem dX11_mean_74 : decode cX11_mean 74 = .ok (.ireturn, 1) := by decide +kernel
theorem dX11_tag_0 : decode cX11_tag 0 = .ok (.aload_n 0, 1) := by decide +kernel
theorem dX11_tag_1 : decode cX11_tag 1 = .ok (.getfield 19, 3) := by decide +kernel
theorem dX11_tag_4 : decode cX11_tag 4 = .ok (.getfield 34, 3) := by decide +kernel
theorem dX11_tag_7 : decode cX11_tag 7 = .ok (.iload_n 1, 1) := by decide +kernel
theorem dX11_tag_8 : decode cX11_tag 8 = .ok (.invokevirtual 163, 3) := by decide +kernel
theorem dX11_tag_11 : decode cX11_tag 11 = .ok (.ifCond .ne 5, 3) := by decide +kernel
theorem dX11_tag_14 : decode cX11_tag 14 = .ok (.iconst (-1), 1) := by decide +kernel
theorem dX11_tag_15 : decode cX11_tag 15 = .ok (.ireturn, 1) := by decide +kernel
theorem dX11_tag_16 : decode cX11_tag 16 = .ok (.aload_n 0, 1) := by decide +kernel
theorem dX11_tag_17 : decode cX11_tag 17 = .ok (.getfield 93, 3) := by decide +kernel
theorem dX11_tag_20 : decode cX11_tag 20 = .ok (.aload_n 0, 1) := by decide +kernel
theorem dX11_tag_21 : decode cX11_tag 21 = .ok (.getfield 19, 3) := by decide +kernel
theorem dX11_tag_24 : decode cX11_tag 24 = .ok (.getfield 140, 3) := by decide +kernel
theorem dX11_tag_27 : decode cX11_tag 27 = .ok (.iload_n 1, 1) := by decide +kernel
theorem dX11_tag_28 : decode cX11_tag 28 = .ok (.invokevirtual 280, 3) := by decide +kernel
theorem dX11_tag_31 : decode cX11_tag 31 = .ok (.aload_n 0, 1) := by decide +kernel
theorem dX11_tag_32 : decode cX11_tag 32 = .ok (.getfield 93, 3) := by decide +kernel
theorem dX11_tag_35 : decode cX11_tag 35 = .ok (.getfield 284, 3) := by decide +kernel
theorem dX11_tag_38 : decode cX11_tag 38 = .ok (.ireturn, 1) := by decide +kernel
theorem dX11_byteAt_0 : decode cX11_byteAt 0 = .ok (.aload_n 0, 1) := by decide +kernel
theorem dX11_byteAt_1 : decode cX11_byteAt 1 = .ok (.getfield 93, 3) := by decide +kernel
theorem dX11_byteAt_4 : decode cX11_byteAt 4 = .ok (.iload_n 1, 1) := by decide +kernel
theorem dX11_byteAt_5 : decode cX11_byteAt 5 = .ok (.invokevirtual 285, 3) := by decide +kernel
theorem dX11_byteAt_8 : decode cX11_byteAt 8 = .ok (.ireturn, 1) := by decide +kernel
theorem dX11_drawn_0 : decode cX11_drawn 0 = .ok (.iload_n 1, 1) := by decide +kernel
theorem dX11_drawn_1 : decode cX11_drawn 1 = .ok (.iconst 1, 1) := by decide +kernel
theorem dX11_drawn_2 : decode cX11_drawn 2 = .ok (.if_icmp .lt 9, 3) := by decide +kernel
theorem dX11_drawn_5 : decode cX11_drawn 5 = .ok (.iload_n 1, 1) := by decide +kernel
theorem dX11_drawn_6 : decode cX11_drawn 6 = .ok (.bipush 60, 2) := by decide +kernel
theorem dX11_drawn_8 : decode cX11_drawn 8 = .ok (.if_icmp .le 5, 3) := by decide +kernel
theorem dX11_drawn_11 : decode cX11_drawn 11 = .ok (.iconst (-1), 1) := by decide +kernel
theorem dX11_drawn_12 : decode cX11_drawn 12 = .ok (.ireturn, 1) := by decide +kernel
theorem dX11_drawn_13 : decode cX11_drawn 13 = .ok (.aload_n 0, 1) := by decide +kernel
theorem dX11_drawn_14 : decode cX11_drawn 14 = .ok (.getfield 41, 3) := by decide +kernel
theorem dX11_drawn_17 : decode cX11_drawn 17 = .ok (.aload_n 0, 1) := by decide +kernel
theorem dX11_drawn_18 : decode cX11_drawn 18 = .ok (.getfield 19, 3) := by decide +kernel
theorem dX11_drawn_21 : decode cX11_drawn 21 = .ok (.getfield 140, 3) := by decide +kernel
theorem dX11_drawn_24 : decode cX11_drawn 24 = .ok (.invokevirtual 197, 3) := by decide +kernel
theorem dX11_drawn_27 : decode cX11_drawn 27 = .ok (.aload_n 0, 1) := by decide +kernel
theorem dX11_drawn_28 : decode cX11_drawn 28 = .ok (.getfield 41, 3) := by decide +kernel
theorem dX11_drawn_31 : decode cX11_drawn 31 = .ok (.aload_n 0, 1) := by decide +kernel
theorem dX11_drawn_32 : decode cX11_drawn 32 = .ok (.getfield 19, 3) := by decide +kernel
theorem dX11_drawn_35 : decode cX11_drawn 35 = .ok (.getfield 140, 3) := by decide +kernel
theorem dX11_drawn_38 : decode cX11_drawn 38 = .ok (.iload_n 1, 1) := by decide +kernel
theorem dX11_drawn_39 : decode cX11_drawn 39 = .ok (.iload_n 2, 1) := by decide +kernel
theorem dX11_drawn_40 : decode cX11_drawn 40 = .ok (.invokevirtual 288, 3) := by decide +kernel
theorem dX11_drawn_43 : decode cX11_drawn 43 = .ok (.invokevirtual 222, 3) := by decide +kernel
theorem dX11_drawn_46 : decode cX11_drawn 46 = .ok (.ireturn, 1) := by decide +kernel
theorem dX11_odds_0 : decode cX11_odds 0 = .ok (.aload_n 0, 1) := by decide +kernel
theorem dX11_odds_1 : decode cX11_odds 1 = .ok (.getfield 19, 3) := by decide +kernel
theorem dX11_odds_4 : decode cX11_odds 4 = .ok (.getfield 34, 3) := by decide +kernel
theorem dX11_odds_7 : decode cX11_odds 7 = .ok (.iload_n 1, 1) := by decide +kernel
theorem dX11_odds_8 : decode cX11_odds 8 = .ok (.invokevirtual 163, 3) := by decide +kernel
theorem dX11_odds_11 : decode cX11_odds 11 = .ok (.ifCond .eq 14, 3) := by decide +kernel
theorem dX11_odds_14 : decode cX11_odds 14 = .ok (.iload_n 2, 1) := by decide +kernel
theorem dX11_odds_15 : decode cX11_odds 15 = .ok (.iconst 1, 1) := by decide +kernel
theorem dX11_odds_16 : decode cX11_odds 16 = .ok (.if_icmp .lt 9, 3) := by decide +kernel
theorem dX11_odds_19 : decode cX11_odds 19 = .ok (.iload_n 2, 1) := by decide +kernel
theorem dX11_odds_20 : decode cX11_odds 20 = .ok (.bipush 30, 2) := by decide +kernel
theorem dX11_odds_22 : decode cX11_odds 22 = .ok (.if_icmp .le 5, 3) := by decide +kernel
theorem dX11_odds_25 : decode cX11_odds 25 = .ok (.iconst (-1), 1) := by decide +kernel
theorem dX11_odds_26 : decode cX11_odds 26 = .ok (.ireturn, 1) := by decide +kernel
theorem dX11_odds_27 : decode cX11_odds 27 = .ok (.iconst 0, 1) := by decide +kernel
theorem dX11_odds_28 : decode cX11_odds 28 = .ok (.istore 4, 2) := by decide +kernel
theorem dX11_odds_30 : decode cX11_odds 30 = .ok (.iconst 0, 1) := by decide +kernel
theorem dX11_odds_31 : decode cX11_odds 31 = .ok (.istore 5, 2) := by decide +kernel
theorem dX11_odds_33 : decode cX11_odds 33 = .ok (.iload 5, 2) := by decide +kernel
theorem dX11_odds_35 : decode cX11_odds 35 = .ok (.iload_n 2, 1) := by decide +kernel
theorem dX11_odds_36 : decode cX11_odds 36 = .ok (.if_icmp .ge 51, 3) := by decide +kernel
theorem dX11_odds_39 : decode cX11_odds 39 = .ok (.aload_n 0, 1) := by decide +kernel
theorem dX11_odds_40 : decode cX11_odds 40 = .ok (.getfield 48, 3) := by decide +kernel
theorem dX11_odds_43 : decode cX11_odds 43 = .ok (.aload_n 0, 1) := by decide +kernel
theorem dX11_odds_44 : decode cX11_odds 44 = .ok (.getfield 19, 3) := by decide +kernel
theorem dX11_odds_47 : decode cX11_odds 47 = .ok (.getfield 140, 3) := by decide +kernel
theorem dX11_odds_50 : decode cX11_odds 50 = .ok (.invokevirtual 256, 3) := by decide +kernel
theorem dX11_odds_53 : decode cX11_odds 53 = .ok (.aload_n 0, 1) := by decide +kernel
theorem dX11_odds_54 : decode cX11_odds 54 = .ok (.getfield 48, 3) := by decide +kernel
theorem dX11_odds_57 : decode cX11_odds 57 = .ok (.bipush 20, 2) := by decide +kernel
theorem dX11_odds_59 : decode cX11_odds 59 = .ok (.iload_n 3, 1) := by decide +kernel
theorem dX11_odds_60 : decode cX11_odds 60 = .ok (.iload 5, 2) := by decide +kernel
theorem dX11_odds_62 : decode cX11_odds 62 = .ok (.iadd, 1) := by decide +kernel
theorem dX11_odds_63 : decode cX11_odds 63 = .ok (.invokevirtual 288, 3) := by decide +kernel
theorem dX11_odds_66 : decode cX11_odds 66 = .ok (.pop, 1) := by decide +kernel
theorem dX11_odds_67 : decode cX11_odds 67 = .ok (.aload_n 0, 1) := by decide +kernel
theorem dX11_odds_68 : decode cX11_odds 68 = .ok (.getfield 48, 3) := by decide +kernel
theorem dX11_odds_71 : decode cX11_odds 71 = .ok (.iload_n 1, 1) := by decide +kernel
theorem dX11_odds_72 : decode cX11_odds 72 = .ok (.invokevirtual 261, 3) := by decide +kernel
theorem dX11_odds_75 : decode cX11_odds 75 = .ok (.ifCond .eq 6, 3) := by decide +kernel
theorem dX11_odds_78 : decode cX11_odds 78 = .ok (.iinc 4 1, 3) := by decide +kernel
theorem dX11_odds_81 : decode cX11_odds 81 = .ok (.iinc 5 1, 3) := by decide +kernel
theorem dX11_odds_84 : decode cX11_odds 84 = .ok (.goto (-51), 3) := by decide +kernel
theorem dX11_odds_87 : decode cX11_odds 87 = .ok (.iload 4, 2) := by decide +kernel
theorem dX11_odds_89 : decode cX11_odds 89 = .ok (.ireturn, 1) := by decide +kernel
theorem dX11_book_0 : decode cX11_book 0 = .ok (.iload_n 1, 1) := by decide +kernel
theorem dX11_book_1 : decode cX11_book 1 = .ok (.ifCond .eq 12, 3) := by decide +kernel
theorem dX11_book_4 : decode cX11_book 4 = .ok (.iload_n 1, 1) := by decide +kernel
theorem dX11_book_5 : decode cX11_book 5 = .ok (.iconst 1, 1) := by decide +kernel
theorem dX11_book_6 : decode cX11_book 6 = .ok (.if_icmp .eq 7, 3) := by decide +kernel
theorem dX11_book_9 : decode cX11_book 9 = .ok (.sipush (-1000), 3) := by decide +kernel
theorem dX11_book_12 : decode cX11_book 12 = .ok (.ireturn, 1) := by decide +kernel
theorem dX11_book_13 : decode cX11_book 13 = .ok (.aload_n 0, 1) := by decide +kernel
theorem dX11_book_14 : decode cX11_book 14 = .ok (.getfield 66, 3) := by decide +kernel
theorem dX11_book_17 : decode cX11_book 17 = .ok (.invokevirtual 291, 3) := by decide +kernel
theorem dX11_book_20 : decode cX11_book 20 = .ok (.istore_n 2, 1) := by decide +kernel
theorem dX11_book_21 : decode cX11_book 21 = .ok (.aload_n 0, 1) := by decide +kernel
theorem dX11_book_22 : decode cX11_book 22 = .ok (.invokevirtual 115, 3) := by decide +kernel
theorem dX11_book_25 : decode cX11_book 25 = .ok (.iload_n 2, 1) := by decide +kernel
theorem dX11_book_26 : decode cX11_book 26 = .ok (.ifCond .ne 14, 3) := by decide +kernel
theorem dX11_book_29 : decode cX11_book 29 = .ok (.bipush (-2), 2) := by decide +kernel
theorem dX11_book_31 : decode cX11_book 31 = .ok (.aload_n 0, 1) := by decide +kernel
theorem dX11_book_32 : decode cX11_book 32 = .ok (.getfield 10, 3) := by decide +kernel
theorem dX11_book_35 : decode cX11_book 35 = .ok (.getfield 118, 3) := by decide +kernel
theorem dX11_book_38 : decode cX11_book 38 = .ok (.isub, 1) := by decide +kernel
theorem dX11_book_39 : decode cX11_book 39 = .ok (.ireturn, 1) := by decide +kernel
theorem dX11_book_40 : decode cX11_book 40 = .ok (.iload_n 1, 1) := by decide +kernel
theorem dX11_book_41 : decode cX11_book 41 = .ok (.ifCond .ne 31, 3) := by decide +kernel
theorem dX11_book_44 : decode cX11_book 44 = .ok (.aload_n 0, 1) := by decide +kernel
theorem dX11_book_45 : decode cX11_book 45 = .ok (.getfield 48, 3) := by decide +kernel
theorem dX11_book_48 : decode cX11_book 48 = .ok (.aload_n 0, 1) := by decide +kernel
theorem dX11_book_49 : decode cX11_book 49 = .ok (.getfield 19, 3) := by decide +kernel
theorem dX11_book_52 : decode cX11_book 52 = .ok (.getfield 140, 3) := by decide +kernel
theorem dX11_book_55 : decode cX11_book 55 = .ok (.invokevirtual 256, 3) := by decide +kernel
theorem dX11_book_58 : decode cX11_book 58 = .ok (.aload_n 0, 1) := by decide +kernel
theorem dX11_book_59 : decode cX11_book 59 = .ok (.getfield 66, 3) := by decide +kernel
theorem dX11_book_62 : decode cX11_book 62 = .ok (.aload_n 0, 1) := by decide +kernel
theorem dX11_book_63 : decode cX11_book 63 = .ok (.getfield 48, 3) := by decide +kernel
theorem dX11_book_66 : decode cX11_book 66 = .ok (.invokevirtual 294, 3) := by decide +kernel
theorem dX11_book_69 : decode cX11_book 69 = .ok (.goto 46, 3) := by decide +kernel
theorem dX11_book_72 : decode cX11_book 72 = .ok (.aload_n 0, 1) := by decide +kernel
theorem dX11_book_73 : decode cX11_book 73 = .ok (.getfield 41, 3) := by decide +kernel
theorem dX11_book_76 : decode cX11_book 76 = .ok (.aload_n 0, 1) := by decide +kernel
theorem dX11_book_77 : decode cX11_book 77 = .ok (.getfield 19, 3) := by decide +kernel
theorem dX11_book_80 : decode cX11_book 80 = .ok (.getfield 140, 3) := by decide +kernel
theorem dX11_book_83 : decode cX11_book 83 = .ok (.invokevirtual 197, 3) := by decide +kernel
theorem dX11_book_86 : decode cX11_book 86 = .ok (.aload_n 0, 1) := by decide +kernel
theorem dX11_book_87 : decode cX11_book 87 = .ok (.getfield 66, 3) := by decide +kernel
theorem dX11_book_90 : decode cX11_book 90 = .ok (.aload_n 0, 1) := by decide +kernel
theorem dX11_book_91 : decode cX11_book 91 = .ok (.getfield 19, 3) := by decide +kernel
theorem dX11_book_94 : decode cX11_book 94 = .ok (.getfield 140, 3) := by decide +kernel
theorem dX11_book_97 : decode cX11_book 97 = .ok (.invokevirtual 294, 3) := by decide +kernel
theorem dX11_book_100 : decode cX11_book 100 = .ok (.aload_n 0, 1) := by decide +kernel
theorem dX11_book_101 : decode cX11_book 101 = .ok (.getfield 41, 3) := by decide +kernel
theorem dX11_book_104 : decode cX11_book 104 = .ok (.aload_n 0, 1) := by decide +kernel
theorem dX11_book_105 : decode cX11_book 105 = .ok (.getfield 66, 3) := by decide +kernel
theorem dX11_book_108 : decode cX11_book 108 = .ok (.getfield 297, 3) := by decide +kernel
theorem dX11_book_111 : decode cX11_book 111 = .ok (.invokevirtual 222, 3) := by decide +kernel
theorem dX11_book_114 : decode cX11_book 114 = .ok (.pop, 1) := by decide +kernel
theorem dX11_book_115 : decode cX11_book 115 = .ok (.aload_n 0, 1) := by decide +kernel
theorem dX11_book_116 : decode cX11_book 116 = .ok (.getfield 66, 3) := by decide +kernel
theorem dX11_book_119 : decode cX11_book 119 = .ok (.getfield 300, 3) := by decide +kernel
theorem dX11_book_122 : decode cX11_book 122 = .ok (.ifCond .ne 7, 3) := by decide +kernel
theorem dX11_book_125 : decode cX11_book 125 = .ok (.iconst (-1), 1) := by decide +kernel
theorem dX11_book_126 : decode cX11_book 126 = .ok (.goto 10, 3) := by decide +kernel
theorem dX11_book_129 : decode cX11_book 129 = .ok (.aload_n 0, 1) := by decide +kernel
theorem dX11_book_130 : decode cX11_book 130 = .ok (.getfield 66, 3) := by decide +kernel
theorem dX11_book_133 : decode cX11_book 133 = .ok (.getfield 297, 3) := by decide +kernel
theorem dX11_book_136 : decode cX11_book 136 = .ok (.ireturn, 1) := by decide +kernel
theorem dX11_told_0 : decode cX11_told 0 = .ok (.aload_n 0, 1) := by decide +kernel
theorem dX11_told_1 : decode cX11_told 1 = .ok (.getfield 66, 3) := by decide +kernel
theorem dX11_told_4 : decode cX11_told 4 = .ok (.iload_n 1, 1) := by decide +kernel
theorem dX11_told_5 : decode cX11_told 5 = .ok (.invokevirtual 303, 3) := by decide +kernel
theorem dX11_told_8 : decode cX11_told 8 = .ok (.ireturn, 1) := by decide +kernel
theorem dX11_sentence_0 : decode cX11_sentence 0 = .ok (.aload_n 0, 1) := by decide +kernel
theorem dX11_sentence_1 : decode cX11_sentence 1 = .ok (.getfield 23, 3) := by decide +kernel
theorem dX11_sentence_4 : decode cX11_sentence 4 = .ok (.getfield 121, 3) := by decide +kernel
theorem dX11_sentence_7 : decode cX11_sentence 7 = .ok (.aload_n 0, 1) := by decide +kernel
theorem dX11_sentence_8 : decode cX11_sentence 8 = .ok (.getfield 10, 3) := by decide +kernel
theorem dX11_sentence_11 : decode cX11_sentence 11 = .ok (.aload_n 0, 1) := by decide +kernel
theorem dX11_sentence_12 : decode cX11_sentence 12 = .ok (.getfield 19, 3) := by decide +kernel
theorem dX11_sentence_15 : decode cX11_sentence 15 = .ok (.getfield 34, 3) := by decide +kernel
theorem dX11_sentence_18 : decode cX11_sentence 18 = .ok (.invokevirtual 306, 3) := by decide +kernel
theorem dX11_sentence_21 : decode cX11_sentence 21 = .ok (.istore_n 1, 1) := by decide +kernel
theorem dX11_sentence_22 : decode cX11_sentence 22 = .ok (.aload_n 0, 1) := by decide +kernel
theorem dX11_sentence_23 : decode cX11_sentence 23 = .ok (.invokevirtual 115, 3) := by decide +kernel
theorem dX11_sentence_26 : decode cX11_sentence 26 = .ok (.iload_n 1, 1) := by decide +kernel
theorem dX11_sentence_27 : decode cX11_sentence 27 = .ok (.ifCond .ne 13, 3) := by decide +kernel
theorem dX11_sentence_30 : decode cX11_sentence 30 = .ok (.iconst (-1), 1) := by decide +kernel
theorem dX11_sentence_31 : decode cX11_sentence 31 = .ok (.aload_n 0, 1) := by decide +kernel
theorem dX11_sentence_32 : decode cX11_sentence 32 = .ok (.getfield 10, 3) := by decide +kernel
theorem dX11_sentence_35 : decode cX11_sentence 35 = .ok (.getfield 118, 3) := by decide +kernel
theorem dX11_sentence_38 : decode cX11_sentence 38 = .ok (.isub, 1) := by decide +kernel
theorem dX11_sentence_39 : decode cX11_sentence 39 = .ok (.ireturn, 1) := by decide +kernel
theorem dX11_sentence_40 : decode cX11_sentence 40 = .ok (.aload_n 0, 1) := by decide +kernel
theorem dX11_sentence_41 : decode cX11_sentence 41 = .ok (.getfield 19, 3) := by decide +kernel
theorem dX11_sentence_44 : decode cX11_sentence 44 = .ok (.getfield 121, 3) := by decide +kernel
theorem dX11_sentence_47 : decode cX11_sentence 47 = .ok (.aload_n 0, 1) := by decide +kernel
theorem dX11_sentence_48 : decode cX11_sentence 48 = .ok (.getfield 23, 3) := by decide +kernel
theorem dX11_sentence_51 : decode cX11_sentence 51 = .ok (.getfield 121, 3) := by decide +kernel
theorem dX11_sentence_54 : decode cX11_sentence 54 = .ok (.invokevirtual 309, 3) := by decide +kernel
theorem dX11_sentence_57 : decode cX11_sentence 57 = .ok (.aload_n 0, 1) := by decide +kernel
theorem dX11_sentence_58 : decode cX11_sentence 58 = .ok (.getfield 19, 3) := by decide +kernel
theorem dX11_sentence_61 : decode cX11_sentence 61 = .ok (.getfield 121, 3) := by decide +kernel
theorem dX11_sentence_64 : decode cX11_sentence 64 = .ok (.getfield 312, 3) := by decide +kernel
theorem dX11_sentence_67 : decode cX11_sentence 67 = .ok (.ireturn, 1) := by decide +kernel
theorem dX11_said_0 : decode cX11_said 0 = .ok (.aload_n 0, 1) := by decide +kernel
theorem dX11_said_1 : decode cX11_said 1 = .ok (.getfield 19, 3) := by decide +kernel
theorem dX11_said_4 : decode cX11_said 4 = .ok (.getfield 121, 3) := by decide +kernel
theorem dX11_said_7 : decode cX11_said 7 = .ok (.getfield 312, 3) := by decide +kernel
theorem dX11_said_10 : decode cX11_said 10 = .ok (.ifCond .ne 5, 3) := by decide +kernel
theorem dX11_said_13 : decode cX11_said 13 = .ok (.iconst (-1), 1) := by decide +kernel
theorem dX11_said_14 : decode cX11_said 14 = .ok (.ireturn, 1) := by decide +kernel
theorem dX11_said_15 : decode cX11_said 15 = .ok (.aload_n 0, 1) := by decide +kernel
theorem dX11_said_16 : decode cX11_said 16 = .ok (.getfield 19, 3) := by decide +kernel
theorem dX11_said_19 : decode cX11_said 19 = .ok (.getfield 121, 3) := by decide +kernel
theorem dX11_said_22 : decode cX11_said 22 = .ok (.aload_n 0, 1) := by decide +kernel
theorem dX11_said_23 : decode cX11_said 23 = .ok (.getfield 19, 3) := by decide +kernel
theorem dX11_said_26 : decode cX11_said 26 = .ok (.getfield 140, 3) := by decide +kernel
theorem dX11_said_29 : decode cX11_said 29 = .ok (.invokevirtual 315, 3) := by decide +kernel
theorem dX11_said_32 : decode cX11_said 32 = .ok (.istore_n 2, 1) := by decide +kernel
theorem dX11_said_33 : decode cX11_said 33 = .ok (.iload_n 1, 1) := by decide +kernel
theorem dX11_said_34 : decode cX11_said 34 = .ok (.iconst (-1), 1) := by decide +kernel
theorem dX11_said_35 : decode cX11_said 35 = .ok (.if_icmp .ne 10, 3) := by decide +kernel
theorem dX11_said_38 : decode cX11_said 38 = .ok (.iload_n 2, 1) := by decide +kernel
theorem dX11_said_39 : decode cX11_said 39 = .ok (.invokestatic 238, 3) := by decide +kernel
theorem dX11_said_42 : decode cX11_said 42 = .ok (.goto 8, 3) := by decide +kernel
theorem dX11_said_45 : decode cX11_said 45 = .ok (.iload_n 2, 1) := by decide +kernel
theorem dX11_said_46 : decode cX11_said 46 = .ok (.iload_n 1, 1) := by decide +kernel
theorem dX11_said_47 : decode cX11_said 47 = .ok (.invokestatic 318, 3) := by decide +kernel
theorem dX11_said_50 : decode cX11_said 50 = .ok (.ireturn, 1) := by decide +kernel
theorem dX11_image_0 : decode cX11_image 0 = .ok (.aload_n 0, 1) := by decide +kernel
theorem dX11_image_1 : decode cX11_image 1 = .ok (.iload_n 1, 1) := by decide +kernel
theorem dX11_image_2 : decode cX11_image 2 = .ok (.invokevirtual 321, 3) := by decide +kernel
theorem dX11_image_5 : decode cX11_image 5 = .ok (.astore_n 2, 1) := by decide +kernel
theorem dX11_image_6 : decode cX11_image 6 = .ok (.aload_n 2, 1) := by decide +kernel
theorem dX11_image_7 : decode cX11_image 7 = .ok (.ifnonnull 5, 3) := by decide +kernel
theorem dX11_image_10 : decode cX11_image 10 = .ok (.iconst 0, 1) := by decide +kernel
theorem dX11_image_11 : decode cX11_image 11 = .ok (.ireturn, 1) := by decide +kernel
theorem dX11_image_12 : decode cX11_image 12 = .ok (.aload_n 2, 1) := by decide +kernel
theorem dX11_image_13 : decode cX11_image 13 = .ok (.aload_n 0, 1) := by decide +kernel
theorem dX11_image_14 : decode cX11_image 14 = .ok (.getfield 19, 3) := by decide +kernel
theorem dX11_image_17 : decode cX11_image 17 = .ok (.invokevirtual 130, 3) := by decide +kernel
theorem dX11_image_20 : decode cX11_image 20 = .ok (.aload_n 2, 1) := by decide +kernel
theorem dX11_image_21 : decode cX11_image 21 = .ok (.iconst 1, 1) := by decide +kernel
theorem dX11_image_22 : decode cX11_image 22 = .ok (.putfield 325, 3) := by decide +kernel
theorem dX11_image_25 : decode cX11_image 25 = .ok (.iconst 1, 1) := by decide +kernel
theorem dX11_image_26 : decode cX11_image 26 = .ok (.ireturn, 1) := by decide +kernel
theorem dX11_restore_0 : decode cX11_restore 0 = .ok (.aload_n 0, 1) := by decide +kernel
theorem dX11_restore_1 : decode cX11_restore 1 = .ok (.iload_n 1, 1) := by decide +kernel
theorem dX11_restore_2 : decode cX11_restore 2 = .ok (.invokevirtual 321, 3) := by decide +kernel
theorem dX11_restore_5 : decode cX11_restore 5 = .ok (.astore_n 2, 1) := by decide +kernel
theorem dX11_restore_6 : decode cX11_restore 6 = .ok (.aload_n 2, 1) := by decide +kernel
theorem dX11_restore_7 : decode cX11_restore 7 = .ok (.ifnull 10, 3) := by decide +kernel
theorem dX11_restore_10 : decode cX11_restore 10 = .ok (.aload_n 2, 1) := by decide +kernel
theorem dX11_restore_11 : decode cX11_restore 11 = .ok (.getfield 325, 3) := by decide +kernel
theorem dX11_restore_14 : decode cX11_restore 14 = .ok (.ifCond .ne 5, 3) := by decide +kernel
theorem dX11_restore_17 : decode cX11_restore 17 = .ok (.iconst 0, 1) := by decide +kernel
theorem dX11_restore_18 : decode cX11_restore 18 = .ok (.ireturn, 1) := by decide +kernel
theorem dX11_restore_19 : decode cX11_restore 19 = .ok (.aload_n 0, 1) := by decide +kernel
theorem dX11_restore_20 : decode cX11_restore 20 = .ok (.getfield 19, 3) := by decide +kernel
theorem dX11_restore_23 : decode cX11_restore 23 = .ok (.aload_n 2, 1) := by decide +kernel
theorem dX11_restore_24 : decode cX11_restore 24 = .ok (.invokevirtual 130, 3) := by decide +kernel
theorem dX11_restore_27 : decode cX11_restore 27 = .ok (.aload_n 0, 1) := by decide +kernel
theorem dX11_restore_28 : decode cX11_restore 28 = .ok (.getfield 41, 3) := by decide +kernel
theorem dX11_restore_31 : decode cX11_restore 31 = .ok (.invokevirtual 134, 3) := by decide +kernel
theorem dX11_restore_34 : decode cX11_restore 34 = .ok (.iconst 1, 1) := by decide +kernel
theorem dX11_restore_35 : decode cX11_restore 35 = .ok (.ireturn, 1) := by decide +kernel
theorem dX11_count_0 : decode cX11_count 0 = .ok (.aload_n 0, 1) := by decide +kernel
theorem dX11_count_1 : decode cX11_count 1 = .ok (.getfield 19, 3) := by decide +kernel
theorem dX11_count_4 : decode cX11_count 4 = .ok (.getfield 34, 3) := by decide +kernel
theorem dX11_count_7 : decode cX11_count 7 = .ok (.astore_n 2, 1) := by decide +kernel
theorem dX11_count_8 : decode cX11_count 8 = .ok (.iload_n 1, 1) := by decide +kernel
theorem dX11_count_9 : decode cX11_count 9 = .ok (.tableswitch 72 0 5 #[39, 44, 49, 54, 59, 64], 39) := by decide +kernel
theorem dX11_count_48 : decode cX11_count 48 = .ok (.aload_n 2, 1) := by decide +kernel
theorem dX11_count_49 : decode cX11_count 49 = .ok (.getfield 329, 3) := by decide +kernel
theorem dX11_count_52 : decode cX11_count 52 = .ok (.ireturn, 1) := by decide +kernel
theorem dX11_count_53 : decode cX11_count 53 = .ok (.aload_n 2, 1) := by decide +kernel
theorem dX11_count_54 : decode cX11_count 54 = .ok (.getfield 271, 3) := by decide +kernel
theorem dX11_count_57 : decode cX11_count 57 = .ok (.ireturn, 1) := by decide +kernel
theorem dX11_count_58 : decode cX11_count 58 = .ok (.aload_n 2, 1) := by decide +kernel
theorem dX11_count_59 : decode cX11_count 59 = .ok (.getfield 332, 3) := by decide +kernel
theorem dX11_count_62 : decode cX11_count 62 = .ok (.ireturn, 1) := by decide +kernel
theorem dX11_count_63 : decode cX11_count 63 = .ok (.aload_n 2, 1) := by decide +kernel
theorem dX11_count_64 : decode cX11_count 64 = .ok (.getfield 335, 3) := by decide +kernel
theorem dX11_count_67 : decode cX11_count 67 = .ok (.ireturn, 1) := by decide +kernel
theorem dX11_count_68 : decode cX11_count 68 = .ok (.aload_n 2, 1) := by decide +kernel
theorem dX11_count_69 : decode cX11_count 69 = .ok (.getfield 338, 3) := by decide +kernel
theorem dX11_count_72 : decode cX11_count 72 = .ok (.ireturn, 1) := by decide +kernel
theorem dX11_count_73 : decode cX11_count 73 = .ok (.aload_n 0, 1) := by decide +kernel
theorem dX11_count_74 : decode cX11_count 74 = .ok (.getfield 10, 3) := by decide +kernel
theorem dX11_count_77 : decode cX11_count 77 = .ok (.getfield 104, 3) := by decide +kernel
theorem dX11_count_80 : decode cX11_count 80 = .ok (.ireturn, 1) := by decide +kernel
theorem dX11_count_81 : decode cX11_count 81 = .ok (.iconst (-1), 1) := by decide +kernel
theorem dX11_count_82 : decode cX11_count 82 = .ok (.ireturn, 1) := by decide +kernel
theorem dX11_imageOf_0 : decode cX11_imageOf 0 = .ok (.iload_n 1, 1) := by decide +kernel
theorem dX11_imageOf_1 : decode cX11_imageOf 1 = .ok (.ifCond .ne 8, 3) := by decide +kernel
theorem dX11_imageOf_4 : decode cX11_imageOf 4 = .ok (.aload_n 0, 1) := by decide +kernel
theorem dX11_imageOf_5 : decode cX11_imageOf 5 = .ok (.getfield 26, 3) := by decide +kernel
theorem dX11_imageOf_8 : decode cX11_imageOf 8 = .ok (.areturn, 1) := by decide +kernel
theorem dX11_imageOf_9 : decode cX11_imageOf 9 = .ok (.iload_n 1, 1) := by decide +kernel
theorem dX11_imageOf_10 : decode cX11_imageOf 10 = .ok (.iconst 1, 1) := by decide +kernel
theorem dX11_imageOf_11 : decode cX11_imageOf 11 = .ok (.if_icmp .ne 10, 3) := by decide +kernel
theorem dX11_imageOf_14 : decode cX11_imageOf 14 = .ok (.aload_n 0, 1) := by decide +kernel
theorem dX11_imageOf_15 : decode cX11_imageOf 15 = .ok (.getfield 29, 3) := by decide +kernel
theorem dX11_imageOf_18 : decode cX11_imageOf 18 = .ok (.goto 4, 3) := by decide +kernel
theorem dX11_imageOf_21 : decode cX11_imageOf 21 = .ok (.aconst_null, 1) := by decide +kernel
theorem dX11_imageOf_22 : decode cX11_imageOf 22 = .ok (.areturn, 1) := by decide +kernel
theorem dX11_finishReading_0 : decode cX11_finishReading 0 = .ok (.aload_n 0, 1) := by decide +kernel
theorem dX11_finishReading_1 : decode cX11_finishReading 1 = .ok (.aload_n 0, 1) := by decide +kernel
theorem dX11_finishReading_2 : decode cX11_finishReading 2 = .ok (.getfield 10, 3) := by decide +kernel
theorem dX11_finishReading_5 : decode cX11_finishReading 5 = .ok (.getfield 341, 3) := by decide +kernel
theorem dX11_finishReading_8 : decode cX11_finishReading 8 = .ok (.putfield 137, 3) := by decide +kernel
theorem dX11_finishReading_11 : decode cX11_finishReading 11 = .ok (.aload_n 0, 1) := by decide +kernel
theorem dX11_finishReading_12 : decode cX11_finishReading 12 = .ok (.getfield 10, 3) := by decide +kernel
theorem dX11_finishReading_15 : decode cX11_finishReading 15 = .ok (.iconst 0, 1) := by decide +kernel
theorem dX11_finishReading_16 : decode cX11_finishReading 16 = .ok (.putfield 104, 3) := by decide +kernel
theorem dX11_finishReading_19 : decode cX11_finishReading 19 = .ok (.return_, 1) := by decide +kernel
theorem dX11_whoByPairs_0 : decode cX11_whoByPairs 0 = .ok (.aload_n 0, 1) := by decide +kernel
theorem dX11_whoByPairs_1 : decode cX11_whoByPairs 1 = .ok (.getfield 10, 3) := by decide +kernel
theorem dX11_whoByPairs_4 : decode cX11_whoByPairs 4 = .ok (.getfield 104, 3) := by decide +kernel
theorem dX11_whoByPairs_7 : decode cX11_whoByPairs 7 = .ok (.iconst 2, 1) := by decide +kernel
theorem dX11_whoByPairs_8 : decode cX11_whoByPairs 8 = .ok (.if_icmp .lt 27, 3) := by decide +kernel
theorem dX11_whoByPairs_11 : decode cX11_whoByPairs 11 = .ok (.aload_n 0, 1) := by decide +kernel
theorem dX11_whoByPairs_12 : decode cX11_whoByPairs 12 = .ok (.getfield 10, 3) := by decide +kernel
theorem dX11_whoByPairs_15 : decode cX11_whoByPairs 15 = .ok (.getfield 104, 3) := by decide +kernel
theorem dX11_whoByPairs_18 : decode cX11_whoByPairs 18 = .ok (.bipush 12, 2) := by decide +kernel
theorem dX11_whoByPairs_20 : decode cX11_whoByPairs 20 = .ok (.if_icmp .gt 15, 3) := by decide +kernel
theorem dX11_whoByPairs_23 : decode cX11_whoByPairs 23 = .ok (.aload_n 0, 1) := by decide +kernel
theorem dX11_whoByPairs_24 : decode cX11_whoByPairs 24 = .ok (.getfield 10, 3) := by decide +kernel
theorem dX11_whoByPairs_27 : decode cX11_whoByPairs 27 = .ok (.getfield 104, 3) := by decide +kernel
theorem dX11_whoByPairs_30 : decode cX11_whoByPairs 30 = .ok (.iconst 2, 1) := by decide +kernel
theorem dX11_whoByPairs_31 : decode cX11_whoByPairs 31 = .ok (.irem, 1) := by decide +kernel
theorem dX11_whoByPairs_32 : decode cX11_whoByPairs 32 = .ok (.ifCond .eq 5, 3) := by decide +kernel
theorem dX11_whoByPairs_35 : decode cX11_whoByPairs 35 = .ok (.iconst (-1), 1) := by decide +kernel
theorem dX11_whoByPairs_36 : decode cX11_whoByPairs 36 = .ok (.ireturn, 1) := by decide +kernel
theorem dX11_whoByPairs_37 : decode cX11_whoByPairs 37 = .ok (.iconst 0, 1) := by decide +kernel
theorem dX11_whoByPairs_38 : decode cX11_whoByPairs 38 = .ok (.istore_n 1, 1) := by decide +kernel
theorem dX11_whoByPairs_39 : decode cX11_whoByPairs 39 = .ok (.iconst 0, 1) := by decide +kernel
theorem dX11_whoByPairs_40 : decode cX11_whoByPairs 40 = .ok (.istore_n 2, 1) := by decide +kernel
theorem dX11_whoByPairs_41 : decode cX11_whoByPairs 41 = .ok (.iconst 0, 1) := by decide +kernel
theorem dX11_whoByPairs_42 : decode cX11_whoByPairs 42 = .ok (.istore_n 3, 1) := by decide +kernel
theorem dX11_whoByPairs_43 : decode cX11_whoByPairs 43 = .ok (.iload_n 3, 1) := by decide +kernel
theorem dX11_whoByPairs_44 : decode cX11_whoByPairs 44 = .ok (.aload_n 0, 1) := by decide +kernel
theorem dX11_whoByPairs_45 : decode cX11_whoByPairs 45 = .ok (.getfield 10, 3) := by decide +kernel
theorem dX11_whoByPairs_48 : decode cX11_whoByPairs 48 = .ok (.getfield 104, 3) := by decide +kernel
theorem dX11_whoByPairs_51 : decode cX11_whoByPairs 51 = .ok (.if_icmp .ge 82, 3) := by decide +kernel
theorem dX11_whoByPairs_54 : decode cX11_whoByPairs 54 = .ok (.aload_n 0, 1) := by decide +kernel
theorem dX11_whoByPairs_55 : decode cX11_whoByPairs 55 = .ok (.getfield 10, 3) := by decide +kernel
theorem dX11_whoByPairs_58 : decode cX11_whoByPairs 58 = .ok (.iload_n 3, 1) := by decide +kernel
theorem dX11_whoByPairs_59 : decode cX11_whoByPairs 59 = .ok (.invokevirtual 344, 3) := by decide +kernel
theorem dX11_whoByPairs_62 : decode cX11_whoByPairs 62 = .ok (.istore 4, 2) := by decide +kernel
theorem dX11_whoByPairs_64 : decode cX11_whoByPairs 64 = .ok (.aload_n 0, 1) := by decide +kernel
theorem dX11_whoByPairs_65 : decode cX11_whoByPairs 65 = .ok (.getfield 10, 3) := by decide +kernel
theorem dX11_whoByPairs_68 : decode cX11_whoByPairs 68 = .ok (.iload_n 3, 1) := by decide +kernel
theorem dX11_whoByPairs_69 : decode cX11_whoByPairs 69 = .ok (.iconst 1, 1) := by decide +kernel
theorem dX11_whoByPairs_70 : decode cX11_whoByPairs 70 = .ok (.iadd, 1) := by decide +kernel
theorem dX11_whoByPairs_71 : decode cX11_whoByPairs 71 = .ok (.invokevirtual 344, 3) := by decide +kernel
theorem dX11_whoByPairs_74 : decode cX11_whoByPairs 74 = .ok (.istore 5, 2) := by decide +kernel
theorem dX11_whoByPairs_76 : decode cX11_whoByPairs 76 = .ok (.aload_n 0, 1) := by decide +kernel
theorem dX11_whoByPairs_77 : decode cX11_whoByPairs 77 = .ok (.getfield 19, 3) := by decide +kernel
theorem dX11_whoByPairs_80 : decode cX11_whoByPairs 80 = .ok (.getfield 34, 3) := by decide +kernel
theorem dX11_whoByPairs_83 : decode cX11_whoByPairs 83 = .ok (.iload 4, 2) := by decide +kernel
theorem dX11_whoByPairs_85 : decode cX11_whoByPairs 85 = .ok (.invokevirtual 163, 3) := by decide +kernel
theorem dX11_whoByPairs_88 : decode cX11_whoByPairs 88 = .ok (.ifCond .eq 14, 3) := by decide +kernel
theorem dX11_whoByPairs_91 : decode cX11_whoByPairs 91 = .ok (.iload 5, 2) := by decide +kernel
theorem dX11_whoByPairs_93 : decode cX11_whoByPairs 93 = .ok (.ifCond .lt 9, 3) := by decide +kernel
theorem dX11_whoByPairs_96 : decode cX11_whoByPairs 96 = .ok (.iload 5, 2) := by decide +kernel
theorem dX11_whoByPairs_98 : decode cX11_whoByPairs 98 = .ok (.iconst 1, 1) := by decide +kernel
theorem dX11_whoByPairs_99 : decode cX11_whoByPairs 99 = .ok (.if_icmp .le 5, 3) := by decide +kernel
theorem dX11_whoByPairs_102 : decode cX11_whoByPairs 102 = .ok (.iconst (-1), 1) := by decide +kernel
theorem dX11_whoByPairs_103 : decode cX11_whoByPairs 103 = .ok (.ireturn, 1) := by decide +kernel
theorem dX11_whoByPairs_104 : decode cX11_whoByPairs 104 = .ok (.iload 5, 2) := by decide +kernel
theorem dX11_whoByPairs_106 : decode cX11_whoByPairs 106 = .ok (.iconst 1, 1) := by decide +kernel
theorem dX11_whoByPairs_107 : decode cX11_whoByPairs 107 = .ok (.if_icmp .ne 13, 3) := by decide +kernel
theorem dX11_whoByPairs_110 : decode cX11_whoByPairs 110 = .ok (.iload_n 1, 1) := by decide +kernel
theorem dX11_whoByPairs_111 : decode cX11_whoByPairs 111 = .ok (.iconst 1, 1) := by decide +kernel
theorem dX11_whoByPairs_112 : decode cX11_whoByPairs 112 = .ok (.iload 4, 2) := by decide +kernel
theorem dX11_whoByPairs_114 : decode cX11_whoByPairs 114 = .ok (.ishl, 1) := by decide +kernel
theorem dX11_whoByPairs_115 : decode cX11_whoByPairs 115 = .ok (.ior, 1) := by decide +kernel
theorem dX11_whoByPairs_116 : decode cX11_whoByPairs 116 = .ok (.istore_n 1, 1) := by decide +kernel
theorem dX11_whoByPairs_117 : decode cX11_whoByPairs 117 = .ok (.goto 10, 3) := by decide +kernel
theorem dX11_whoByPairs_120 : decode cX11_whoByPairs 120 = .ok (.iload_n 2, 1) := by decide +kernel
theorem dX11_whoByPairs_121 : decode cX11_whoByPairs 121 = .ok (.iconst 1, 1) := by decide +kernel
theorem dX11_whoByPairs_122 : decode cX11_whoByPairs 122 = .ok (.iload 4, 2) := by decide +kernel
theorem dX11_whoByPairs_124 : decode cX11_whoByPairs 124 = .ok (.ishl, 1) := by decide +kernel
theorem dX11_whoByPairs_125 : decode cX11_whoByPairs 125 = .ok (.ior, 1) := by decide +kernel
theorem dX11_whoByPairs_126 : decode cX11_whoByPairs 126 = .ok (.istore_n 2, 1) := by decide +kernel
theorem dX11_whoByPairs_127 : decode cX11_whoByPairs 127 = .ok (.iinc 3 2, 3) := by decide +kernel
theorem dX11_whoByPairs_130 : decode cX11_whoByPairs 130 = .ok (.goto (-87), 3) := by decide +kernel
theorem dX11_whoByPairs_133 : decode cX11_whoByPairs 133 = .ok (.aload_n 0, 1) := by decide +kernel
theorem dX11_whoByPairs_134 : decode cX11_whoByPairs 134 = .ok (.getfield 19, 3) := by decide +kernel
theorem dX11_whoByPairs_137 : decode cX11_whoByPairs 137 = .ok (.getfield 140, 3) := by decide +kernel
theorem dX11_whoByPairs_140 : decode cX11_whoByPairs 140 = .ok (.iload_n 1, 1) := by decide +kernel
theorem dX11_whoByPairs_141 : decode cX11_whoByPairs 141 = .ok (.iload_n 2, 1) := by decide +kernel
theorem dX11_whoByPairs_142 : decode cX11_whoByPairs 142 = .ok (.invokevirtual 347, 3) := by decide +kernel
theorem dX11_whoByPairs_145 : decode cX11_whoByPairs 145 = .ok (.ireturn, 1) := by decide +kernel
theorem dX11_commonDivisor_0 : decode cX11_commonDivisor 0 = .ok (.iload_n 1, 1) := by decide +kernel
theorem dX11_commonDivisor_1 : decode cX11_commonDivisor 1 = .ok (.istore_n 2, 1) := by decide +kernel
theorem dX11_commonDivisor_2 : decode cX11_commonDivisor 2 = .ok (.iload_n 2, 1) := by decide +kernel
theorem dX11_commonDivisor_3 : decode cX11_commonDivisor 3 = .ok (.iconst 1, 1) := by decide +kernel
theorem dX11_commonDivisor_4 : decode cX11_commonDivisor 4 = .ok (.if_icmp .le 23, 3) := by decide +kernel
theorem dX11_commonDivisor_7 : decode cX11_commonDivisor 7 = .ok (.iload_n 0, 1) := by decide +kernel
theorem dX11_commonDivisor_8 : decode cX11_commonDivisor 8 = .ok (.iload_n 2, 1) := by decide +kernel
theorem dX11_commonDivisor_9 : decode cX11_commonDivisor 9 = .ok (.irem, 1) := by decide +kernel
theorem dX11_commonDivisor_10 : decode cX11_commonDivisor 10 = .ok (.ifCond .ne 11, 3) := by decide +kernel
theorem dX11_commonDivisor_13 : decode cX11_commonDivisor 13 = .ok (.iload_n 1, 1) := by decide +kernel
theorem dX11_commonDivisor_14 : decode cX11_commonDivisor 14 = .ok (.iload_n 2, 1) := by decide +kernel
theorem dX11_commonDivisor_15 : decode cX11_commonDivisor 15 = .ok (.irem, 1) := by decide +kernel
theorem dX11_commonDivisor_16 : decode cX11_commonDivisor 16 = .ok (.ifCond .ne 5, 3) := by decide +kernel
theorem dX11_commonDivisor_19 : decode cX11_commonDivisor 19 = .ok (.iload_n 2, 1) := by decide +kernel
theorem dX11_commonDivisor_20 : decode cX11_commonDivisor 20 = .ok (.ireturn, 1) := by decide +kernel
theorem dX11_commonDivisor_21 : decode cX11_commonDivisor 21 = .ok (.iinc 2 (-1), 3) := by decide +kernel
theorem dX11_commonDivisor_24 : decode cX11_commonDivisor 24 = .ok (.goto (-22), 3) := by decide +kernel
theorem dX11_commonDivisor_27 : decode cX11_commonDivisor 27 = .ok (.iconst 1, 1) := by decide +kernel
theorem dX11_commonDivisor_28 : decode cX11_commonDivisor 28 = .ok (.ireturn, 1) := by decide +kernel
theorem dX11_bitInOrder_0 : decode cX11_bitInOrder 0 = .ok (.iconst 0, 1) := by decide +kernel
theorem dX11_bitInOrder_1 : decode cX11_bitInOrder 1 = .ok (.istore_n 2, 1) := by decide +kernel
theorem dX11_bitInOrder_2 : decode cX11_bitInOrder 2 = .ok (.iconst 0, 1) := by decide +kernel
theorem dX11_bitInOrder_3 : decode cX11_bitInOrder 3 = .ok (.istore_n 3, 1) := by decide +kernel
theorem dX11_bitInOrder_4 : decode cX11_bitInOrder 4 = .ok (.iload_n 3, 1) := by decide +kernel
theorem dX11_bitInOrder_5 : decode cX11_bitInOrder 5 = .ok (.bipush 8, 2) := by decide +kernel
theorem dX11_bitInOrder_7 : decode cX11_bitInOrder 7 = .ok (.if_icmp .ge 27, 3) := by decide +kernel
theorem dX11_bitInOrder_10 : decode cX11_bitInOrder 10 = .ok (.iload_n 0, 1) := by decide +kernel
theorem dX11_bitInOrder_11 : decode cX11_bitInOrder 11 = .ok (.iload_n 3, 1) := by decide +kernel
theorem dX11_bitInOrder_12 : decode cX11_bitInOrder 12 = .ok (.invokestatic 350, 3) := by decide +kernel
theorem dX11_bitInOrder_15 : decode cX11_bitInOrder 15 = .ok (.ifCond .eq 13, 3) := by decide +kernel
theorem dX11_bitInOrder_18 : decode cX11_bitInOrder 18 = .ok (.iload_n 2, 1) := by decide +kernel
theorem dX11_bitInOrder_19 : decode cX11_bitInOrder 19 = .ok (.iload_n 1, 1) := by decide +kernel
theorem dX11_bitInOrder_20 : decode cX11_bitInOrder 20 = .ok (.if_icmp .ne 5, 3) := by decide +kernel
theorem dX11_bitInOrder_23 : decode cX11_bitInOrder 23 = .ok (.iload_n 3, 1) := by decide +kernel
theorem dX11_bitInOrder_24 : decode cX11_bitInOrder 24 = .ok (.ireturn, 1) := by decide +kernel
theorem dX11_bitInOrder_25 : decode cX11_bitInOrder 25 = .ok (.iinc 2 1, 3) := by decide +kernel
theorem dX11_bitInOrder_28 : decode cX11_bitInOrder 28 = .ok (.iinc 3 1, 3) := by decide +kernel
theorem dX11_bitInOrder_31 : decode cX11_bitInOrder 31 = .ok (.goto (-27), 3) := by decide +kernel
theorem dX11_bitInOrder_34 : decode cX11_bitInOrder 34 = .ok (.iconst (-1), 1) := by decide +kernel
theorem dX11_bitInOrder_35 : decode cX11_bitInOrder 35 = .ok (.ireturn, 1) := by decide +kernel
theorem dX11_hasBit_0 : decode cX11_hasBit 0 = .ok (.iload_n 0, 1) := by decide +kernel
theorem dX11_hasBit_1 : decode cX11_hasBit 1 = .ok (.iload_n 1, 1) := by decide +kernel
theorem dX11_hasBit_2 : decode cX11_hasBit 2 = .ok (.ishr, 1) := by decide +kernel
theorem dX11_hasBit_3 : decode cX11_hasBit 3 = .ok (.iconst 1, 1) := by decide +kernel
theorem dX11_hasBit_4 : decode cX11_hasBit 4 = .ok (.iand, 1) := by decide +kernel
theorem dX11_hasBit_5 : decode cX11_hasBit 5 = .ok (.iconst 1, 1) := by decide +kernel
theorem dX11_hasBit_6 : decode cX11_hasBit 6 = .ok (.if_icmp .ne 7, 3) := by decide +kernel
theorem dX11_hasBit_9 : decode cX11_hasBit 9 = .ok (.iconst 1, 1) := by decide +kernel
theorem dX11_hasBit_10 : decode cX11_hasBit 10 = .ok (.goto 4, 3) := by decide +kernel
theorem dX11_hasBit_13 : decode cX11_hasBit 13 = .ok (.iconst 0, 1) := by decide +kernel
theorem dX11_hasBit_14 : decode cX11_hasBit 14 = .ok (.ireturn, 1) := by decide +kernel
theorem dJ6_bitCount_0f7a4_0 : decode cJ6_bitCount_0f7a4 0 = .ok (.iload_n 0, 1) := by decide +kernel
theorem dJ6_bitCount_0f7a4_1 : decode cJ6_bitCount_0f7a4 1 = .ok (.iload_n 0, 1) := by decide +kernel
theorem dJ6_bitCount_0f7a4_2 : decode cJ6_bitCount_0f7a4 2 = .ok (.iconst 1, 1) := by decide +kernel
theorem dJ6_bitCount_0f7a4_3 : decode cJ6_bitCount_0f7a4 3 = .ok (.iushr, 1) := by decide +kernel
theorem dJ6_bitCount_0f7a4_4 : decode cJ6_bitCount_0f7a4 4 = .ok (.ldc_w 265, 3) := by decide +kernel
theorem dJ6_bitCount_0f7a4_7 : decode cJ6_bitCount_0f7a4 7 = .ok (.iand, 1) := by decide +kernel
theorem dJ6_bitCount_0f7a4_8 : decode cJ6_bitCount_0f7a4 8 = .ok (.isub, 1) := by decide +kernel
theorem dJ6_bitCount_0f7a4_9 : decode cJ6_bitCount_0f7a4 9 = .ok (.istore_n 0, 1) := by decide +kernel
theorem dJ6_bitCount_0f7a4_10 : decode cJ6_bitCount_0f7a4 10 = .ok (.iload_n 0, 1) := by decide +kernel
theorem dJ6_bitCount_0f7a4_11 : decode cJ6_bitCount_0f7a4 11 = .ok (.ldc_w 266, 3) := by decide +kernel
theorem dJ6_bitCount_0f7a4_14 : decode cJ6_bitCount_0f7a4 14 = .ok (.iand, 1) := by decide +kernel
theorem dJ6_bitCount_0f7a4_15 : decode cJ6_bitCount_0f7a4 15 = .ok (.iload_n 0, 1) := by decide +kernel
theorem dJ6_bitCount_0f7a4_16 : decode cJ6_bitCount_0f7a4 16 = .ok (.iconst 2, 1) := by decide +kernel
theorem dJ6_bitCount_0f7a4_17 : decode cJ6_bitCount_0f7a4 17 = .ok (.iushr, 1) := by decide +kernel
theorem dJ6_bitCount_0f7a4_18 : decode cJ6_bitCount_0f7a4 18 = .ok (.ldc_w 266, 3) := by decide +kernel
theorem dJ6_bitCount_0f7a4_21 : decode cJ6_bitCount_0f7a4 21 = .ok (.iand, 1) := by decide +kernel
theorem dJ6_bitCount_0f7a4_22 : decode cJ6_bitCount_0f7a4 22 = .ok (.iadd, 1) := by decide +kernel
theorem dJ6_bitCount_0f7a4_23 : decode cJ6_bitCount_0f7a4 23 = .ok (.istore_n 0, 1) := by decide +kernel
theorem dJ6_bitCount_0f7a4_24 : decode cJ6_bitCount_0f7a4 24 = .ok (.iload_n 0, 1) := by decide +kernel
theorem dJ6_bitCount_0f7a4_25 : decode cJ6_bitCount_0f7a4 25 = .ok (.iload_n 0, 1) := by decide +kernel
theorem dJ6_bitCount_0f7a4_26 : decode cJ6_bitCount_0f7a4 26 = .ok (.iconst 4, 1) := by decide +kernel
theorem dJ6_bitCount_0f7a4_27 : decode cJ6_bitCount_0f7a4 27 = .ok (.iushr, 1) := by decide +kernel
theorem dJ6_bitCount_0f7a4_28 : decode cJ6_bitCount_0f7a4 28 = .ok (.iadd, 1) := by decide +kernel
theorem dJ6_bitCount_0f7a4_29 : decode cJ6_bitCount_0f7a4 29 = .ok (.ldc_w 267, 3) := by decide +kernel
theorem dJ6_bitCount_0f7a4_32 : decode cJ6_bitCount_0f7a4 32 = .ok (.iand, 1) := by decide +kernel
theorem dJ6_bitCount_0f7a4_33 : decode cJ6_bitCount_0f7a4 33 = .ok (.istore_n 0, 1) := by decide +kernel
theorem dJ6_bitCount_0f7a4_34 : decode cJ6_bitCount_0f7a4 34 = .ok (.iload_n 0, 1) := by decide +kernel
theorem dJ6_bitCount_0f7a4_35 : decode cJ6_bitCount_0f7a4 35 = .ok (.iload_n 0, 1) := by decide +kernel
theorem dJ6_bitCount_0f7a4_36 : decode cJ6_bitCount_0f7a4 36 = .ok (.bipush 8, 2) := by decide +kernel
theorem dJ6_bitCount_0f7a4_38 : decode cJ6_bitCount_0f7a4 38 = .ok (.iushr, 1) := by decide +kernel
theorem dJ6_bitCount_0f7a4_39 : decode cJ6_bitCount_0f7a4 39 = .ok (.iadd, 1) := by decide +kernel
theorem dJ6_bitCount_0f7a4_40 : decode cJ6_bitCount_0f7a4 40 = .ok (.istore_n 0, 1) := by decide +kernel
theorem dJ6_bitCount_0f7a4_41 : decode cJ6_bitCount_0f7a4 41 = .ok (.iload_n 0, 1) := by decide +kernel
theorem dJ6_bitCount_0f7a4_42 : decode cJ6_bitCount_0f7a4 42 = .ok (.iload_n 0, 1) := by decide +kernel
theorem dJ6_bitCount_0f7a4_43 : decode cJ6_bitCount_0f7a4 43 = .ok (.bipush 16, 2) := by decide +kernel
theorem dJ6_bitCount_0f7a4_45 : decode cJ6_bitCount_0f7a4 45 = .ok (.iushr, 1) := by decide +kernel
theorem dJ6_bitCount_0f7a4_46 : decode cJ6_bitCount_0f7a4 46 = .ok (.iadd, 1) := by decide +kernel
theorem dJ6_bitCount_0f7a4_47 : decode cJ6_bitCount_0f7a4 47 = .ok (.istore_n 0, 1) := by decide +kernel
theorem dJ6_bitCount_0f7a4_48 : decode cJ6_bitCount_0f7a4 48 = .ok (.iload_n 0, 1) := by decide +kernel
theorem dJ6_bitCount_0f7a4_49 : decode cJ6_bitCount_0f7a4 49 = .ok (.bipush 63, 2) := by decide +kernel
theorem dJ6_bitCount_0f7a4_51 : decode cJ6_bitCount_0f7a4 51 = .ok (.iand, 1) := by decide +kernel
theorem dJ6_bitCount_0f7a4_52 : decode cJ6_bitCount_0f7a4 52 = .ok (.ireturn, 1) := by decide +kernel
theorem dJ9_abs_0f7a4_0 : decode cJ9_abs_0f7a4 0 = .ok (.iload_n 0, 1) := by decide +kernel
theorem dJ9_abs_0f7a4_1 : decode cJ9_abs_0f7a4 1 = .ok (.ifCond .ge 8, 3) := by decide +kernel
theorem dJ9_abs_0f7a4_4 : decode cJ9_abs_0f7a4 4 = .ok (.iload_n 0, 1) := by decide +kernel
theorem dJ9_abs_0f7a4_5 : decode cJ9_abs_0f7a4 5 = .ok (.ineg, 1) := by decide +kernel
theorem dJ9_abs_0f7a4_6 : decode cJ9_abs_0f7a4 6 = .ok (.goto 4, 3) := by decide +kernel
theorem dJ9_abs_0f7a4_9 : decode cJ9_abs_0f7a4 9 = .ok (.iload_n 0, 1) := by decide +kernel
theorem dJ9_abs_0f7a4_10 : decode cJ9_abs_0f7a4 10 = .ok (.ireturn, 1) := by decide +kernel
theorem dJ9_max_7cf53_0 : decode cJ9_max_7cf53 0 = .ok (.iload_n 0, 1) := by decide +kernel
theorem dJ9_max_7cf53_1 : decode cJ9_max_7cf53 1 = .ok (.iload_n 1, 1) := by decide +kernel
theorem dJ9_max_7cf53_2 : decode cJ9_max_7cf53 2 = .ok (.if_icmp .lt 7, 3) := by decide +kernel
theorem dJ9_max_7cf53_5 : decode cJ9_max_7cf53 5 = .ok (.iload_n 0, 1) := by decide +kernel
theorem dJ9_max_7cf53_6 : decode cJ9_max_7cf53 6 = .ok (.goto 4, 3) := by decide +kernel
theorem dJ9_max_7cf53_9 : decode cJ9_max_7cf53 9 = .ok (.iload_n 1, 1) := by decide +kernel
theorem dJ9_max_7cf53_10 : decode cJ9_max_7cf53 10 = .ok (.ireturn, 1) := by decide +kernel
theorem dJ9_min_7cf53_0 : decode cJ9_min_7cf53 0 = .ok (.iload_n 0, 1) := by decide +kernel
theorem dJ9_min_7cf53_1 : decode cJ9_min_7cf53 1 = .ok (.iload_n 1, 1) := by decide +kernel
theorem dJ9_min_7cf53_2 : decode cJ9_min_7cf53 2 = .ok (.if_icmp .gt 7, 3) := by decide +kernel
theorem dJ9_min_7cf53_5 : decode cJ9_min_7cf53 5 = .ok (.iload_n 0, 1) := by decide +kernel
theorem dJ9_min_7cf53_6 : decode cJ9_min_7cf53 6 = .ok (.goto 4, 3) := by decide +kernel
theorem dJ9_min_7cf53_9 : decode cJ9_min_7cf53 9 = .ok (.iload_n 1, 1) := by decide +kernel
theorem dJ9_min_7cf53_10 : decode cJ9_min_7cf53 10 = .ok (.ireturn, 1) := by decide +kernel
theorem dJ0_length_8abf5_0 : decode cJ0_length_8abf5 0 = .ok (.aload_n 0, 1) := by decide +kernel
theorem dJ0_length_8abf5_1 : decode cJ0_length_8abf5 1 = .ok (.getfield 9, 3) := by decide +kernel
theorem dJ0_length_8abf5_4 : decode cJ0_length_8abf5 4 = .ok (.arraylength, 1) := by decide +kernel
theorem dJ0_length_8abf5_5 : decode cJ0_length_8abf5 5 = .ok (.aload_n 0, 1) := by decide +kernel
theorem dJ0_length_8abf5_6 : decode cJ0_length_8abf5 6 = .ok (.invokevirtual 335, 3) := by decide +kernel
theorem dJ0_length_8abf5_9 : decode cJ0_length_8abf5 9 = .ok (.ishr, 1) := by decide +kernel
theorem dJ0_length_8abf5_10 : decode cJ0_length_8abf5 10 = .ok (.ireturn, 1) := by decide +kernel
theorem dJ0_charAt_5068e_0 : decode cJ0_charAt_5068e 0 = .ok (.aload_n 0, 1) := by decide +kernel
theorem dJ0_charAt_5068e_1 : decode cJ0_charAt_5068e 1 = .ok (.invokevirtual 492, 3) := by decide +kernel
theorem dJ0_charAt_5068e_4 : decode cJ0_charAt_5068e 4 = .ok (.ifCond .eq 12, 3) := by decide +kernel
theorem dJ0_charAt_5068e_7 : decode cJ0_charAt_5068e 7 = .ok (.aload_n 0, 1) := by decide +kernel
theorem dJ0_charAt_5068e_8 : decode cJ0_charAt_5068e 8 = .ok (.getfield 9, 3) := by decide +kernel
theorem dJ0_charAt_5068e_11 : decode cJ0_charAt_5068e 11 = .ok (.iload_n 1, 1) := by decide +kernel
theorem dJ0_charAt_5068e_12 : decode cJ0_charAt_5068e 12 = .ok (.invokestatic 495, 3) := by decide +kernel
theorem dJ0_charAt_5068e_15 : decode cJ0_charAt_5068e 15 = .ok (.ireturn, 1) := by decide +kernel
theorem dJ0_charAt_5068e_16 : decode cJ0_charAt_5068e 16 = .ok (.aload_n 0, 1) := by decide +kernel
theorem dJ0_charAt_5068e_17 : decode cJ0_charAt_5068e 17 = .ok (.getfield 9, 3) := by decide +kernel
theorem dJ0_charAt_5068e_20 : decode cJ0_charAt_5068e 20 = .ok (.iload_n 1, 1) := by decide +kernel
theorem dJ0_charAt_5068e_21 : decode cJ0_charAt_5068e 21 = .ok (.invokestatic 498, 3) := by decide +kernel
theorem dJ0_charAt_5068e_24 : decode cJ0_charAt_5068e 24 = .ok (.ireturn, 1) := by decide +kernel
theorem dJ0_coder_7d493_0 : decode cJ0_coder_7d493 0 = .ok (.getstatic 38, 3) := by decide +kernel
theorem dJ0_coder_7d493_3 : decode cJ0_coder_7d493 3 = .ok (.ifCond .eq 10, 3) := by decide +kernel
theorem dJ0_coder_7d493_6 : decode cJ0_coder_7d493 6 = .ok (.aload_n 0, 1) := by decide +kernel
theorem dJ0_coder_7d493_7 : decode cJ0_coder_7d493 7 = .ok (.getfield 15, 3) := by decide +kernel
theorem dJ0_coder_7d493_10 : decode cJ0_coder_7d493 10 = .ok (.goto 4, 3) := by decide +kernel
theorem dJ0_coder_7d493_13 : decode cJ0_coder_7d493 13 = .ok (.iconst 1, 1) := by decide +kernel
theorem dJ0_coder_7d493_14 : decode cJ0_coder_7d493 14 = .ok (.ireturn, 1) := by decide +kernel
theorem dJ0_isLatin1_aae02_0 : decode cJ0_isLatin1_aae02 0 = .ok (.getstatic 38, 3) := by decide +kernel
theorem dJ0_isLatin1_aae02_3 : decode cJ0_isLatin1_aae02 3 = .ok (.ifCond .eq 14, 3) := by decide +kernel
theorem dJ0_isLatin1_aae02_6 : decode cJ0_isLatin1_aae02 6 = .ok (.aload_n 0, 1) := by decide +kernel
theorem dJ0_isLatin1_aae02_7 : decode cJ0_isLatin1_aae02 7 = .ok (.getfield 15, 3) := by decide +kernel
theorem dJ0_isLatin1_aae02_10 : decode cJ0_isLatin1_aae02 10 = .ok (.ifCond .ne 7, 3) := by decide +kernel
theorem dJ0_isLatin1_aae02_13 : decode cJ0_isLatin1_aae02 13 = .ok (.iconst 1, 1) := by decide +kernel
theorem dJ0_isLatin1_aae02_14 : decode cJ0_isLatin1_aae02 14 = .ok (.goto 4, 3) := by decide +kernel
theorem dJ0_isLatin1_aae02_17 : decode cJ0_isLatin1_aae02 17 = .ok (.iconst 0, 1) := by decide +kernel
theorem dJ0_isLatin1_aae02_18 : decode cJ0_isLatin1_aae02 18 = .ok (.ireturn, 1) := by decide +kernel
theorem dJ0_checkIndex_df160_0 : decode cJ0_checkIndex_df160 0 = .ok (.iload_n 0, 1) := by decide +kernel
theorem dJ0_checkIndex_df160_1 : decode cJ0_checkIndex_df160 1 = .ok (.iload_n 1, 1) := by decide +kernel
theorem dJ0_checkIndex_df160_2 : decode cJ0_checkIndex_df160 2 = .ok (.getstatic 1053, 3) := by decide +kernel
theorem dJ0_checkIndex_df160_5 : decode cJ0_checkIndex_df160 5 = .ok (.invokestatic 1059, 3) := by decide +kernel
theorem dJ0_checkIndex_df160_8 : decode cJ0_checkIndex_df160 8 = .ok (.pop, 1) := by decide +kernel
theorem dJ0_checkIndex_df160_9 : decode cJ0_checkIndex_df160 9 = .ok (.return_, 1) := by decide +kernel
theorem dJ1_charAt_3b067_0 : decode cJ1_charAt_3b067 0 = .ok (.iload_n 1, 1) := by decide +kernel
theorem dJ1_charAt_3b067_1 : decode cJ1_charAt_3b067 1 = .ok (.aload_n 0, 1) := by decide +kernel
theorem dJ1_charAt_3b067_2 : decode cJ1_charAt_3b067 2 = .ok (.arraylength, 1) := by decide +kernel
theorem dJ1_charAt_3b067_3 : decode cJ1_charAt_3b067 3 = .ok (.invokestatic 9, 3) := by decide +kernel
theorem dJ1_charAt_3b067_6 : decode cJ1_charAt_3b067 6 = .ok (.aload_n 0, 1) := by decide +kernel
theorem dJ1_charAt_3b067_7 : decode cJ1_charAt_3b067 7 = .ok (.iload_n 1, 1) := by decide +kernel
theorem dJ1_charAt_3b067_8 : decode cJ1_charAt_3b067 8 = .ok (.baload, 1) := by decide +kernel
theorem dJ1_charAt_3b067_9 : decode cJ1_charAt_3b067 9 = .ok (.sipush 255, 3) := by decide +kernel
theorem dJ1_charAt_3b067_12 : decode cJ1_charAt_3b067 12 = .ok (.iand, 1) := by decide +kernel
theorem dJ1_charAt_3b067_13 : decode cJ1_charAt_3b067 13 = .ok (.i2c, 1) := by decide +kernel
theorem dJ1_charAt_3b067_14 : decode cJ1_charAt_3b067 14 = .ok (.ireturn, 1) := by decide +kernel
theorem dJ2_getChar_3b067_0 : decode cJ2_getChar_3b067 0 = .ok (.getstatic 44, 3) := by decide +kernel
theorem dJ2_getChar_3b067_3 : decode cJ2_getChar_3b067 3 = .ok (.ifCond .ne 25, 3) := by decide +kernel
theorem dJ2_getChar_3b067_6 : decode cJ2_getChar_3b067 6 = .ok (.iload_n 1, 1) := by decide +kernel
theorem dJ2_getChar_3b067_7 : decode cJ2_getChar_3b067 7 = .ok (.ifCond .lt 11, 3) := by decide +kernel
theorem dJ2_getChar_3b067_10 : decode cJ2_getChar_3b067 10 = .ok (.iload_n 1, 1) := by decide +kernel
theorem dJ2_getChar_3b067_11 : decode cJ2_getChar_3b067 11 = .ok (.aload_n 0, 1) := by decide +kernel
theorem dJ2_getChar_3b067_12 : decode cJ2_getChar_3b067 12 = .ok (.invokestatic 48, 3) := by decide +kernel
theorem dJ2_getChar_3b067_15 : decode cJ2_getChar_3b067 15 = .ok (.if_icmp .lt 13, 3) := by decide +kernel
theorem dJ2_getChar_3b067_18 : decode cJ2_getChar_3b067 18 = .ok (.new 52, 3) := by decide +kernel
theorem dJ2_getChar_3b067_21 : decode cJ2_getChar_3b067 21 = .ok (.dup, 1) := by decide +kernel
theorem dJ2_getChar_3b067_22 : decode cJ2_getChar_3b067 22 = .ok (.ldc 54, 2) := by decide +kernel
theorem dJ2_getChar_3b067_24 : decode cJ2_getChar_3b067 24 = .ok (.invokespecial 56, 3) := by decide +kernel
theorem dJ2_getChar_3b067_27 : decode cJ2_getChar_3b067 27 = .ok (.athrow, 1) := by decide +kernel
theorem dJ2_getChar_3b067_28 : decode cJ2_getChar_3b067 28 = .ok (.iload_n 1, 1) := by decide +kernel
theorem dJ2_getChar_3b067_29 : decode cJ2_getChar_3b067 29 = .ok (.iconst 1, 1) := by decide +kernel
theorem dJ2_getChar_3b067_30 : decode cJ2_getChar_3b067 30 = .ok (.ishl, 1) := by decide +kernel
theorem dJ2_getChar_3b067_31 : decode cJ2_getChar_3b067 31 = .ok (.istore_n 1, 1) := by decide +kernel
theorem dJ2_getChar_3b067_32 : decode cJ2_getChar_3b067 32 = .ok (.aload_n 0, 1) := by decide +kernel
theorem dJ2_getChar_3b067_33 : decode cJ2_getChar_3b067 33 = .ok (.iload_n 1, 1) := by decide +kernel
theorem dJ2_getChar_3b067_34 : decode cJ2_getChar_3b067 34 = .ok (.iinc 1 1, 3) := by decide +kernel
theorem dJ2_getChar_3b067_37 : decode cJ2_getChar_3b067 37 = .ok (.baload, 1) := by decide +kernel
theorem dJ2_getChar_3b067_38 : decode cJ2_getChar_3b067 38 = .ok (.sipush 255, 3) := by decide +kernel
theorem dJ2_getChar_3b067_41 : decode cJ2_getChar_3b067 41 = .ok (.iand, 1) := by decide +kernel
theorem dJ2_getChar_3b067_42 : decode cJ2_getChar_3b067 42 = .ok (.getstatic 59, 3) := by decide +kernel
theorem dJ2_getChar_3b067_45 : decode cJ2_getChar_3b067 45 = .ok (.ishl, 1) := by decide +kernel
theorem dJ2_getChar_3b067_46 : decode cJ2_getChar_3b067 46 = .ok (.aload_n 0, 1) := by decide +kernel
theorem dJ2_getChar_3b067_47 : decode cJ2_getChar_3b067 47 = .ok (.iload_n 1, 1) := by decide +kernel
theorem dJ2_getChar_3b067_48 : decode cJ2_getChar_3b067 48 = .ok (.baload, 1) := by decide +kernel
theorem dJ2_getChar_3b067_49 : decode cJ2_getChar_3b067 49 = .ok (.sipush 255, 3) := by decide +kernel
theorem dJ2_getChar_3b067_52 : decode cJ2_getChar_3b067 52 = .ok (.iand, 1) := by decide +kernel
theorem dJ2_getChar_3b067_53 : decode cJ2_getChar_3b067 53 = .ok (.getstatic 63, 3) := by decide +kernel
theorem dJ2_getChar_3b067_56 : decode cJ2_getChar_3b067 56 = .ok (.ishl, 1) := by decide +kernel
theorem dJ2_getChar_3b067_57 : decode cJ2_getChar_3b067 57 = .ok (.ior, 1) := by decide +kernel
theorem dJ2_getChar_3b067_58 : decode cJ2_getChar_3b067 58 = .ok (.i2c, 1) := by decide +kernel
theorem dJ2_getChar_3b067_59 : decode cJ2_getChar_3b067 59 = .ok (.ireturn, 1) := by decide +kernel
theorem dJ2_length_9d52b_0 : decode cJ2_length_9d52b 0 = .ok (.aload_n 0, 1) := by decide +kernel
theorem dJ2_length_9d52b_1 : decode cJ2_length_9d52b 1 = .ok (.arraylength, 1) := by decide +kernel
theorem dJ2_length_9d52b_2 : decode cJ2_length_9d52b 2 = .ok (.iconst 1, 1) := by decide +kernel
theorem dJ2_length_9d52b_3 : decode cJ2_length_9d52b 3 = .ok (.ishr, 1) := by decide +kernel
theorem dJ2_length_9d52b_4 : decode cJ2_length_9d52b 4 = .ok (.ireturn, 1) := by decide +kernel
theorem dJ2_charAt_3b067_0 : decode cJ2_charAt_3b067 0 = .ok (.iload_n 1, 1) := by decide +kernel
theorem dJ2_charAt_3b067_1 : decode cJ2_charAt_3b067 1 = .ok (.aload_n 0, 1) := by decide +kernel
theorem dJ2_charAt_3b067_2 : decode cJ2_charAt_3b067 2 = .ok (.invokestatic 67, 3) := by decide +kernel
theorem dJ2_charAt_3b067_5 : decode cJ2_charAt_3b067 5 = .ok (.aload_n 0, 1) := by decide +kernel
theorem dJ2_charAt_3b067_6 : decode cJ2_charAt_3b067 6 = .ok (.iload_n 1, 1) := by decide +kernel
theorem dJ2_charAt_3b067_7 : decode cJ2_charAt_3b067 7 = .ok (.invokestatic 71, 3) := by decide +kernel
theorem dJ2_charAt_3b067_10 : decode cJ2_charAt_3b067 10 = .ok (.ireturn, 1) := by decide +kernel
theorem dJ2_checkIndex_2214a_0 : decode cJ2_checkIndex_2214a 0 = .ok (.iload_n 0, 1) := by decide +kernel
theorem dJ2_checkIndex_2214a_1 : decode cJ2_checkIndex_2214a 1 = .ok (.aload_n 1, 1) := by decide +kernel
theorem dJ2_checkIndex_2214a_2 : decode cJ2_checkIndex_2214a 2 = .ok (.invokestatic 48, 3) := by decide +kernel
theorem dJ2_checkIndex_2214a_5 : decode cJ2_checkIndex_2214a 5 = .ok (.invokestatic 414, 3) := by decide +kernel
theorem dJ2_checkIndex_2214a_8 : decode cJ2_checkIndex_2214a 8 = .ok (.return_, 1) := by decide +kernel
theorem dJ3_checkIndex_8e157_0 : decode cJ3_checkIndex_8e157 0 = .ok (.iload_n 0, 1) := by decide +kernel
theorem dJ3_checkIndex_8e157_1 : decode cJ3_checkIndex_8e157 1 = .ok (.ifCond .lt 8, 3) := by decide +kernel
theorem dJ3_checkIndex_8e157_4 : decode cJ3_checkIndex_8e157 4 = .ok (.iload_n 0, 1) := by decide +kernel
theorem dJ3_checkIndex_8e157_5 : decode cJ3_checkIndex_8e157 5 = .ok (.iload_n 1, 1) := by decide +kernel
theorem dJ3_checkIndex_8e157_6 : decode cJ3_checkIndex_8e157 6 = .ok (.if_icmp .lt 10, 3) := by decide +kernel
theorem dJ3_checkIndex_8e157_9 : decode cJ3_checkIndex_8e157 9 = .ok (.aload_n 2, 1) := by decide +kernel
theorem dJ3_checkIndex_8e157_10 : decode cJ3_checkIndex_8e157 10 = .ok (.iload_n 0, 1) := by decide +kernel
theorem dJ3_checkIndex_8e157_11 : decode cJ3_checkIndex_8e157 11 = .ok (.iload_n 1, 1) := by decide +kernel
theorem dJ3_checkIndex_8e157_12 : decode cJ3_checkIndex_8e157 12 = .ok (.invokestatic 95, 3) := by decide +kernel
theorem dJ3_checkIndex_8e157_15 : decode cJ3_checkIndex_8e157 15 = .ok (.athrow, 1) := by decide +kernel
theorem dJ3_checkIndex_8e157_16 : decode cJ3_checkIndex_8e157 16 = .ok (.iload_n 0, 1) := by decide +kernel
theorem dJ3_checkIndex_8e157_17 : decode cJ3_checkIndex_8e157 17 = .ok (.ireturn, 1) := by decide +kernel
theorem dL_person_0 : decode cL_person 0 = .ok (.aload_n 3, 1) := by decide +kernel
theorem dL_person_1 : decode cL_person 1 = .ok (.iconst 0, 1) := by decide +kernel
theorem dL_person_2 : decode cL_person 2 = .ok (.aload_n 0, 1) := by decide +kernel
theorem dL_person_3 : decode cL_person 3 = .ok (.iload_n 1, 1) := by decide +kernel
theorem dL_person_4 : decode cL_person 4 = .ok (.iload_n 2, 1) := by decide +kernel
theorem dL_person_5 : decode cL_person 5 = .ok (.invokevirtual 7, 3) := by decide +kernel
theorem dL_person_8 : decode cL_person 8 = .ok (.i2l, 1) := by decide +kernel
theorem dL_person_9 : decode cL_person 9 = .ok (.lastore, 1) := by decide +kernel
theorem dL_person_10 : decode cL_person 10 = .ok (.goto 7, 3) := by decide +kernel
theorem dL_person_13 : decode cL_person 13 = .ok (.astore 4, 2) := by decide +kernel
theorem dL_person_15 : decode cL_person 15 = .ok (.iconst 1, 1) := by decide +kernel
theorem dL_person_16 : decode cL_person 16 = .ok (.ireturn, 1) := by decide +kernel
theorem dL_person_17 : decode cL_person 17 = .ok (.iconst 0, 1) := by decide +kernel
theorem dL_person_18 : decode cL_person 18 = .ok (.ireturn, 1) := by decide +kernel
theorem dL_mean_0 : decode cL_mean 0 = .ok (.aload_n 2, 1) := by decide +kernel
theorem dL_mean_1 : decode cL_mean 1 = .ok (.iconst 0, 1) := by decide +kernel
theorem dL_mean_2 : decode cL_mean 2 = .ok (.aload_n 0, 1) := by decide +kernel
theorem dL_mean_3 : decode cL_mean 3 = .ok (.iload_n 1, 1) := by decide +kernel
theorem dL_mean_4 : decode cL_mean 4 = .ok (.invokevirtual 15, 3) := by decide +kernel
theorem dL_mean_7 : decode cL_mean 7 = .ok (.i2l, 1) := by decide +kernel
theorem dL_mean_8 : decode cL_mean 8 = .ok (.lastore, 1) := by decide +kernel
theorem dL_mean_9 : decode cL_mean 9 = .ok (.goto 6, 3) := by decide +kernel
theorem dL_mean_12 : decode cL_mean 12 = .ok (.astore_n 3, 1) := by decide +kernel
theorem dL_mean_13 : decode cL_mean 13 = .ok (.iconst 1, 1) := by decide +kernel
theorem dL_mean_14 : decode cL_mean 14 = .ok (.ireturn, 1) := by decide +kernel
theorem dL_mean_15 : decode cL_mean 15 = .ok (.iconst 0, 1) := by decide +kernel
theorem dL_mean_16 : decode cL_mean 16 = .ok (.ireturn, 1) := by decide +kernel
theorem dL_law_0 : decode cL_law 0 = .ok (.new 8, 3) := by decide +kernel
theorem dL_law_3 : decode cL_law 3 = .ok (.dup, 1) := by decide +kernel
theorem dL_law_4 : decode cL_law 4 = .ok (.invokespecial 19, 3) := by decide +kernel
theorem dL_law_7 : decode cL_law 7 = .ok (.astore_n 1, 1) := by decide +kernel
theorem dL_law_8 : decode cL_law 8 = .ok (.new 20, 3) := by decide +kernel
theorem dL_law_11 : decode cL_law 11 = .ok (.dup, 1) := by decide +kernel
theorem dL_law_12 : decode cL_law 12 = .ok (.invokespecial 22, 3) := by decide +kernel
theorem dL_law_15 : decode cL_law 15 = .ok (.astore_n 2, 1) := by decide +kernel
theorem dL_law_16 : decode cL_law 16 = .ok (.iconst 1, 1) := by decide +kernel
theorem dL_law_17 : decode cL_law 17 = .ok (.newarray .long, 2) := by decide +kernel
theorem dL_law_19 : decode cL_law 19 = .ok (.astore_n 3, 1) := by decide +kernel
theorem dL_law_20 : decode cL_law 20 = .ok (.iconst 0, 1) := by decide +kernel
theorem dL_law_21 : decode cL_law 21 = .ok (.istore 4, 2) := by decide +kernel
theorem dL_law_23 : decode cL_law 23 = .ok (.iload 4, 2) := by decide +kernel
theorem dL_law_25 : decode cL_law 25 = .ok (.aload_n 0, 1) := by decide +kernel
theorem dL_law_26 : decode cL_law 26 = .ok (.arraylength, 1) := by decide +kernel
theorem dL_law_27 : decode cL_law 27 = .ok (.bipush 6, 2) := by decide +kernel
theorem dL_law_29 : decode cL_law 29 = .ok (.isub, 1) := by decide +kernel
theorem dL_law_30 : decode cL_law 30 = .ok (.if_icmp .gt 1268, 3) := by decide +kernel
theorem dL_law_33 : decode cL_law 33 = .ok (.aload_n 0, 1) := by decide +kernel
theorem dL_law_34 : decode cL_law 34 = .ok (.iload 4, 2) := by decide +kernel
theorem dL_law_36 : decode cL_law 36 = .ok (.iaload, 1) := by decide +kernel
theorem dL_law_37 : decode cL_law 37 = .ok (.bipush 63, 2) := by decide +kernel
theorem dL_law_39 : decode cL_law 39 = .ok (.iand, 1) := by decide +kernel
theorem dL_law_40 : decode cL_law 40 = .ok (.tableswitch 1252 0 37 #[168, 241, 266, 279, 292, 329, 397, 434, 459, 496, 533, 558, 595, 632, 657, 670, 695, 708, 721, 758, 783, 796, 809, 834, 847, 884, 897, 953, 978, 1003, 1040, 1089, 1114, 1139, 1152, 1177, 1202, 1227], 168) := by decide +kernel
theorem dL_law_208 : decode cL_law 208 = .ok (.aload_n 1, 1) := by decide +kernel
theorem dL_law_209 : decode cL_law 209 = .ok (.aload_n 0, 1) := by decide +kernel
theorem dL_law_210 : decode cL_law 210 = .ok (.iload 4, 2) := by decide +kernel
theorem dL_law_212 : decode cL_law 212 = .ok (.iconst 1, 1) := by decide +kernel
theorem dL_law_213 : decode cL_law 213 = .ok (.iadd, 1) := by decide +kernel
theorem dL_law_214 : decode cL_law 214 = .ok (.iaload, 1) := by decide +kernel
theorem dL_law_215 : decode cL_law 215 = .ok (.aload_n 0, 1) := by decide +kernel
theorem dL_law_216 : decode cL_law 216 = .ok (.iload 4, 2) := by decide +kernel
theorem dL_law_218 : decode cL_law 218 = .ok (.iconst 2, 1) := by decide +kernel
theorem dL_law_219 : decode cL_law 219 = .ok (.iadd, 1) := by decide +kernel
theorem dL_law_220 : decode cL_law 220 = .ok (.iaload, 1) := by decide +kernel
theorem dL_law_221 : decode cL_law 221 = .ok (.aload_n 0, 1) := by decide +kernel
theorem dL_law_222 : decode cL_law 222 = .ok (.iload 4, 2) := by decide +kernel
theorem dL_law_224 : decode cL_law 224 = .ok (.iconst 3, 1) := by decide +kernel
theorem dL_law_225 : decode cL_law 225 = .ok (.iadd, 1) := by decide +kernel
theorem dL_law_226 : decode cL_law 226 = .ok (.iaload, 1) := by decide +kernel
theorem dL_law_227 : decode cL_law 227 = .ok (.aload_n 0, 1) := by decide +kernel
theorem dL_law_228 : decode cL_law 228 = .ok (.iload 4, 2) := by decide +kernel
theorem dL_law_230 : decode cL_law 230 = .ok (.iconst 4, 1) := by decide +kernel
theorem dL_law_231 : decode cL_law 231 = .ok (.iadd, 1) := by decide +kernel
theorem dL_law_232 : decode cL_law 232 = .ok (.iaload, 1) := by decide +kernel
theorem dL_law_233 : decode cL_law 233 = .ok (.aload_n 0, 1) := by decide +kernel
theorem dL_law_234 : decode cL_law 234 = .ok (.iload 4, 2) := by decide +kernel
theorem dL_law_236 : decode cL_law 236 = .ok (.iconst 5, 1) := by decide +kernel
theorem dL_law_237 : decode cL_law 237 = .ok (.iadd, 1) := by decide +kernel
theorem dL_law_238 : decode cL_law 238 = .ok (.iaload, 1) := by decide +kernel
theorem dL_law_239 : decode cL_law 239 = .ok (.invokevirtual 23, 3) := by decide +kernel
theorem dL_law_242 : decode cL_law 242 = .ok (.aload_n 2, 1) := by decide +kernel
theorem dL_law_243 : decode cL_law 243 = .ok (.aload_n 0, 1) := by decide +kernel
theorem dL_law_244 : decode cL_law 244 = .ok (.iload 4, 2) := by decide +kernel
theorem dL_law_246 : decode cL_law 246 = .ok (.iconst 1, 1) := by decide +kernel
theorem dL_law_247 : decode cL_law 247 = .ok (.iadd, 1) := by decide +kernel
theorem dL_law_248 : decode cL_law 248 = .ok (.iaload, 1) := by decide +kernel
theorem dL_law_249 : decode cL_law 249 = .ok (.aload_n 0, 1) := by decide +kernel
theorem dL_law_250 : decode cL_law 250 = .ok (.iload 4, 2) := by decide +kernel
theorem dL_law_252 : decode cL_law 252 = .ok (.iconst 2, 1) := by decide +kernel
theorem dL_law_253 : decode cL_law 253 = .ok (.iadd, 1) := by decide +kernel
theorem dL_law_254 : decode cL_law 254 = .ok (.iaload, 1) := by decide +kernel
theorem dL_law_255 : decode cL_law 255 = .ok (.aload_n 0, 1) := by decide +kernel
theorem dL_law_256 : decode cL_law 256 = .ok (.iload 4, 2) := by decide +kernel
theorem dL_law_258 : decode cL_law 258 = .ok (.iconst 3, 1) := by decide +kernel
theorem dL_law_259 : decode cL_law 259 = .ok (.iadd, 1) := by decide +kernel
theorem dL_law_260 : decode cL_law 260 = .ok (.iaload, 1) := by decide +kernel
theorem dL_law_261 : decode cL_law 261 = .ok (.aload_n 0, 1) := by decide +kernel
theorem dL_law_262 : decode cL_law 262 = .ok (.iload 4, 2) := by decide +kernel
theorem dL_law_264 : decode cL_law 264 = .ok (.iconst 4, 1) := by decide +kernel
theorem dL_law_265 : decode cL_law 265 = .ok (.iadd, 1) := by decide +kernel
theorem dL_law_266 : decode cL_law 266 = .ok (.iaload, 1) := by decide +kernel
theorem dL_law_267 : decode cL_law 267 = .ok (.aload_n 0, 1) := by decide +kernel
theorem dL_law_268 : decode cL_law 268 = .ok (.iload 4, 2) := by decide +kernel
theorem dL_law_270 : decode cL_law 270 = .ok (.iconst 5, 1) := by decide +kernel
theorem dL_law_271 : decode cL_law 271 = .ok (.iadd, 1) := by decide +kernel
theorem dL_law_272 : decode cL_law 272 = .ok (.iaload, 1) := by decide +kernel
theorem dL_law_273 : decode cL_law 273 = .ok (.invokevirtual 27, 3) := by decide +kernel
theorem dL_law_276 : decode cL_law 276 = .ok (.if_icmp .eq 1016, 3) := by decide +kernel
theorem dL_law_279 : decode cL_law 279 = .ok (.iconst 0, 1) := by decide +kernel
theorem dL_law_280 : decode cL_law 280 = .ok (.ireturn, 1) := by decide +kernel
theorem dL_law_281 : decode cL_law 281 = .ok (.aload_n 1, 1) := by decide +kernel
theorem dL_law_282 : decode cL_law 282 = .ok (.aload_n 0, 1) := by decide +kernel
theorem dL_law_283 : decode cL_law 283 = .ok (.iload 4, 2) := by decide +kernel
theorem dL_law_285 : decode cL_law 285 = .ok (.iconst 1, 1) := by decide +kernel
theorem dL_law_286 : decode cL_law 286 = .ok (.iadd, 1) := by decide +kernel
theorem dL_law_287 : decode cL_law 287 = .ok (.iaload, 1) := by decide +kernel
theorem dL_law_288 : decode cL_law 288 = .ok (.invokevirtual 28, 3) := by decide +kernel
theorem dL_law_291 : decode cL_law 291 = .ok (.aload_n 2, 1) := by decide +kernel
theorem dL_law_292 : decode cL_law 292 = .ok (.aload_n 0, 1) := by decide +kernel
theorem dL_law_293 : decode cL_law 293 = .ok (.iload 4, 2) := by decide +kernel
theorem dL_law_295 : decode cL_law 295 = .ok (.iconst 1, 1) := by decide +kernel
theorem dL_law_296 : decode cL_law 296 = .ok (.iadd, 1) := by decide +kernel
theorem dL_law_297 : decode cL_law 297 = .ok (.iaload, 1) := by decide +kernel
theorem dL_law_298 : decode cL_law 298 = .ok (.invokevirtual 32, 3) := by decide +kernel
theorem dL_law_301 : decode cL_law 301 = .ok (.if_icmp .eq 991, 3) := by decide +kernel
theorem dL_law_304 : decode cL_law 304 = .ok (.iconst 0, 1) := by decide +kernel
theorem dL_law_305 : decode cL_law 305 = .ok (.ireturn, 1) := by decide +kernel
theorem dL_law_306 : decode cL_law 306 = .ok (.aload_n 1, 1) := by decide +kernel
theorem dL_law_307 : decode cL_law 307 = .ok (.invokevirtual 33, 3) := by decide +kernel
theorem dL_law_310 : decode cL_law 310 = .ok (.aload_n 2, 1) := by decide +kernel
theorem dL_law_311 : decode cL_law 311 = .ok (.invokevirtual 37, 3) := by decide +kernel
theorem dL_law_314 : decode cL_law 314 = .ok (.if_icmp .eq 978, 3) := by decide +kernel
theorem dL_law_317 : decode cL_law 317 = .ok (.iconst 0, 1) := by decide +kernel
theorem dL_law_318 : decode cL_law 318 = .ok (.ireturn, 1) := by decide +kernel
theorem dL_law_319 : decode cL_law 319 = .ok (.aload_n 1, 1) := by decide +kernel
theorem dL_law_320 : decode cL_law 320 = .ok (.invokevirtual 38, 3) := by decide +kernel
theorem dL_law_323 : decode cL_law 323 = .ok (.aload_n 2, 1) := by decide +kernel
theorem dL_law_324 : decode cL_law 324 = .ok (.invokevirtual 41, 3) := by decide +kernel
theorem dL_law_327 : decode cL_law 327 = .ok (.if_icmp .eq 965, 3) := by decide +kernel
theorem dL_law_330 : decode cL_law 330 = .ok (.iconst 0, 1) := by decide +kernel
theorem dL_law_331 : decode cL_law 331 = .ok (.ireturn, 1) := by decide +kernel
theorem dL_law_332 : decode cL_law 332 = .ok (.aload_n 1, 1) := by decide +kernel
theorem dL_law_333 : decode cL_law 333 = .ok (.aload_n 0, 1) := by decide +kernel
theorem dL_law_334 : decode cL_law 334 = .ok (.iload 4, 2) := by decide +kernel
theorem dL_law_336 : decode cL_law 336 = .ok (.iconst 1, 1) := by decide +kernel
theorem dL_law_337 : decode cL_law 337 = .ok (.iadd, 1) := by decide +kernel
theorem dL_law_338 : decode cL_law 338 = .ok (.iaload, 1) := by decide +kernel
theorem dL_law_339 : decode cL_law 339 = .ok (.aload_n 0, 1) := by decide +kernel
theorem dL_law_340 : decode cL_law 340 = .ok (.iload 4, 2) := by decide +kernel
theorem dL_law_342 : decode cL_law 342 = .ok (.iconst 2, 1) := by decide +kernel
theorem dL_law_343 : decode cL_law 343 = .ok (.iadd, 1) := by decide +kernel
theorem dL_law_344 : decode cL_law 344 = .ok (.iaload, 1) := by decide +kernel
theorem dL_law_345 : decode cL_law 345 = .ok (.invokevirtual 42, 3) := by decide +kernel
theorem dL_law_348 : decode cL_law 348 = .ok (.aload_n 2, 1) := by decide +kernel
theorem dL_law_349 : decode cL_law 349 = .ok (.aload_n 0, 1) := by decide +kernel
theorem dL_law_350 : decode cL_law 350 = .ok (.iload 4, 2) := by decide +kernel
theorem dL_law_352 : decode cL_law 352 = .ok (.iconst 1, 1) := by decide +kernel
theorem dL_law_353 : decode cL_law 353 = .ok (.iadd, 1) := by decide +kernel
theorem dL_law_354 : decode cL_law 354 = .ok (.iaload, 1) := by decide +kernel
theorem dL_law_355 : decode cL_law 355 = .ok (.aload_n 0, 1) := by decide +kernel
theorem dL_law_356 : decode cL_law 356 = .ok (.iload 4, 2) := by decide +kernel
theorem dL_law_358 : decode cL_law 358 = .ok (.iconst 2, 1) := by decide +kernel
theorem dL_law_359 : decode cL_law 359 = .ok (.iadd, 1) := by decide +kernel
theorem dL_law_360 : decode cL_law 360 = .ok (.iaload, 1) := by decide +kernel
theorem dL_law_361 : decode cL_law 361 = .ok (.invokevirtual 45, 3) := by decide +kernel
theorem dL_law_364 : decode cL_law 364 = .ok (.if_icmp .eq 928, 3) := by decide +kernel
theorem dL_law_367 : decode cL_law 367 = .ok (.iconst 0, 1) := by decide +kernel
theorem dL_law_368 : decode cL_law 368 = .ok (.ireturn, 1) := by decide +kernel
theorem dL_law_369 : decode cL_law 369 = .ok (.aload_n 1, 1) := by decide +kernel
theorem dL_law_370 : decode cL_law 370 = .ok (.aload_n 0, 1) := by decide +kernel
theorem dL_law_371 : decode cL_law 371 = .ok (.iload 4, 2) := by decide +kernel
theorem dL_law_373 : decode cL_law 373 = .ok (.iconst 1, 1) := by decide +kernel
theorem dL_law_374 : decode cL_law 374 = .ok (.iadd, 1) := by decide +kernel
theorem dL_law_375 : decode cL_law 375 = .ok (.iaload, 1) := by decide +kernel
theorem dL_law_376 : decode cL_law 376 = .ok (.aload_n 0, 1) := by decide +kernel
theorem dL_law_377 : decode cL_law 377 = .ok (.iload 4, 2) := by decide +kernel
theorem dL_law_379 : decode cL_law 379 = .ok (.iconst 2, 1) := by decide +kernel
theorem dL_law_380 : decode cL_law 380 = .ok (.iadd, 1) := by decide +kernel
theorem dL_law_381 : decode cL_law 381 = .ok (.iaload, 1) := by decide +kernel
theorem dL_law_382 : decode cL_law 382 = .ok (.aload_n 3, 1) := by decide +kernel
theorem dL_law_383 : decode cL_law 383 = .ok (.invokestatic 46, 3) := by decide +kernel
theorem dL_law_386 : decode cL_law 386 = .ok (.istore 5, 2) := by decide +kernel
theorem dL_law_388 : decode cL_law 388 = .ok (.aload_n 2, 1) := by decide +kernel
theorem dL_law_389 : decode cL_law 389 = .ok (.aload_n 0, 1) := by decide +kernel
theorem dL_law_390 : decode cL_law 390 = .ok (.iload 4, 2) := by decide +kernel
theorem dL_law_392 : decode cL_law 392 = .ok (.iconst 1, 1) := by decide +kernel
theorem dL_law_393 : decode cL_law 393 = .ok (.iadd, 1) := by decide +kernel
theorem dL_law_394 : decode cL_law 394 = .ok (.iaload, 1) := by decide +kernel
theorem dL_law_395 : decode cL_law 395 = .ok (.aload_n 0, 1) := by decide +kernel
theorem dL_law_396 : decode cL_law 396 = .ok (.iload 4, 2) := by decide +kernel
theorem dL_law_398 : decode cL_law 398 = .ok (.iconst 2, 1) := by decide +kernel
theorem dL_law_399 : decode cL_law 399 = .ok (.iadd, 1) := by decide +kernel
theorem dL_law_400 : decode cL_law 400 = .ok (.iaload, 1) := by decide +kernel
theorem dL_law_401 : decode cL_law 401 = .ok (.invokevirtual 51, 3) := by decide +kernel
theorem dL_law_404 : decode cL_law 404 = .ok (.istore 6, 2) := by decide +kernel
theorem dL_law_406 : decode cL_law 406 = .ok (.aload_n 2, 1) := by decide +kernel
theorem dL_law_407 : decode cL_law 407 = .ok (.invokevirtual 52, 3) := by decide +kernel
theorem dL_law_410 : decode cL_law 410 = .ok (.iload 5, 2) := by decide +kernel
theorem dL_law_412 : decode cL_law 412 = .ok (.if_icmp .eq 5, 3) := by decide +kernel
theorem dL_law_415 : decode cL_law 415 = .ok (.iconst 0, 1) := by decide +kernel
theorem dL_law_416 : decode cL_law 416 = .ok (.ireturn, 1) := by decide +kernel
theorem dL_law_417 : decode cL_law 417 = .ok (.iload 5, 2) := by decide +kernel
theorem dL_law_419 : decode cL_law 419 = .ok (.ifCond .ne 15, 3) := by decide +kernel
theorem dL_law_422 : decode cL_law 422 = .ok (.aload_n 3, 1) := by decide +kernel
theorem dL_law_423 : decode cL_law 423 = .ok (.iconst 0, 1) := by decide +kernel
theorem dL_law_424 : decode cL_law 424 = .ok (.laload, 1) := by decide +kernel
theorem dL_law_425 : decode cL_law 425 = .ok (.iload 6, 2) := by decide +kernel
theorem dL_law_427 : decode cL_law 427 = .ok (.i2l, 1) := by decide +kernel
theorem dL_law_428 : decode cL_law 428 = .ok (.lcmp, 1) := by decide +kernel
theorem dL_law_429 : decode cL_law 429 = .ok (.ifCond .eq 5, 3) := by decide +kernel
theorem dL_law_432 : decode cL_law 432 = .ok (.iconst 0, 1) := by decide +kernel
theorem dL_law_433 : decode cL_law 433 = .ok (.ireturn, 1) := by decide +kernel
theorem dL_law_434 : decode cL_law 434 = .ok (.goto 858, 3) := by decide +kernel
theorem dL_law_437 : decode cL_law 437 = .ok (.aload_n 1, 1) := by decide +kernel
theorem dL_law_438 : decode cL_law 438 = .ok (.aload_n 0, 1) := by decide +kernel
theorem dL_law_439 : decode cL_law 439 = .ok (.iload 4, 2) := by decide +kernel
theorem dL_law_441 : decode cL_law 441 = .ok (.iconst 1, 1) := by decide +kernel
theorem dL_law_442 : decode cL_law 442 = .ok (.iadd, 1) := by decide +kernel
theorem dL_law_443 : decode cL_law 443 = .ok (.iaload, 1) := by decide +kernel
theorem dL_law_444 : decode cL_law 444 = .ok (.aload_n 0, 1) := by decide +kernel
theorem dL_law_445 : decode cL_law 445 = .ok (.iload 4, 2) := by decide +kernel
theorem dL_law_447 : decode cL_law 447 = .ok (.iconst 2, 1) := by decide +kernel
theorem dL_law_448 : decode cL_law 448 = .ok (.iadd, 1) := by decide +kernel
theorem dL_law_449 : decode cL_law 449 = .ok (.iaload, 1) := by decide +kernel
theorem dL_law_450 : decode cL_law 450 = .ok (.invokevirtual 55, 3) := by decide +kernel
theorem dL_law_453 : decode cL_law 453 = .ok (.aload_n 2, 1) := by decide +kernel
theorem dL_law_454 : decode cL_law 454 = .ok (.aload_n 0, 1) := by decide +kernel
theorem dL_law_455 : decode cL_law 455 = .ok (.iload 4, 2) := by decide +kernel
theorem dL_law_457 : decode cL_law 457 = .ok (.iconst 1, 1) := by decide +kernel
theorem dL_law_458 : decode cL_law 458 = .ok (.iadd, 1) := by decide +kernel
theorem dL_law_459 : decode cL_law 459 = .ok (.iaload, 1) := by decide +kernel
theorem dL_law_460 : decode cL_law 460 = .ok (.aload_n 0, 1) := by decide +kernel
theorem dL_law_461 : decode cL_law 461 = .ok (.iload 4, 2) := by decide +kernel
theorem dL_law_463 : decode cL_law 463 = .ok (.iconst 2, 1) := by decide +kernel
theorem dL_law_464 : decode cL_law 464 = .ok (.iadd, 1) := by decide +kernel
theorem dL_law_465 : decode cL_law 465 = .ok (.iaload, 1) := by decide +kernel
theorem dL_law_466 : decode cL_law 466 = .ok (.invokevirtual 58, 3) := by decide +kernel
theorem dL_law_469 : decode cL_law 469 = .ok (.if_icmp .eq 823, 3) := by decide +kernel
theorem dL_law_472 : decode cL_law 472 = .ok (.iconst 0, 1) := by decide +kernel
theorem dL_law_473 : decode cL_law 473 = .ok (.ireturn, 1) := by decide +kernel
theorem dL_law_474 : decode cL_law 474 = .ok (.aload_n 1, 1) := by decide +kernel
theorem dL_law_475 : decode cL_law 475 = .ok (.aload_n 0, 1) := by decide +kernel
theorem dL_law_476 : decode cL_law 476 = .ok (.iload 4, 2) := by decide +kernel
theorem dL_law_478 : decode cL_law 478 = .ok (.iconst 1, 1) := by decide +kernel
theorem dL_law_479 : decode cL_law 479 = .ok (.iadd, 1) := by decide +kernel
theorem dL_law_480 : decode cL_law 480 = .ok (.iaload, 1) := by decide +kernel
theorem dL_law_481 : decode cL_law 481 = .ok (.invokevirtual 59, 3) := by decide +kernel
theorem dL_law_484 : decode cL_law 484 = .ok (.aload_n 2, 1) := by decide +kernel
theorem dL_law_485 : decode cL_law 485 = .ok (.aload_n 0, 1) := by decide +kernel
theorem dL_law_486 : decode cL_law 486 = .ok (.iload 4, 2) := by decide +kernel
theorem dL_law_488 : decode cL_law 488 = .ok (.iconst 1, 1) := by decide +kernel
theorem dL_law_489 : decode cL_law 489 = .ok (.iadd, 1) := by decide +kernel
theorem dL_law_490 : decode cL_law 490 = .ok (.iaload, 1) := by decide +kernel
theorem dL_law_491 : decode cL_law 491 = .ok (.invokevirtual 62, 3) := by decide +kernel
theorem dL_law_494 : decode cL_law 494 = .ok (.if_icmp .eq 798, 3) := by decide +kernel
theorem dL_law_497 : decode cL_law 497 = .ok (.iconst 0, 1) := by decide +kernel
theorem dL_law_498 : decode cL_law 498 = .ok (.ireturn, 1) := by decide +kernel
theorem dL_law_499 : decode cL_law 499 = .ok (.aload_n 1, 1) := by decide +kernel
theorem dL_law_500 : decode cL_law 500 = .ok (.aload_n 0, 1) := by decide +kernel
theorem dL_law_501 : decode cL_law 501 = .ok (.iload 4, 2) := by decide +kernel
theorem dL_law_503 : decode cL_law 503 = .ok (.iconst 1, 1) := by decide +kernel
theorem dL_law_504 : decode cL_law 504 = .ok (.iadd, 1) := by decide +kernel
theorem dL_law_505 : decode cL_law 505 = .ok (.iaload, 1) := by decide +kernel
theorem dL_law_506 : decode cL_law 506 = .ok (.aload_n 0, 1) := by decide +kernel
theorem dL_law_507 : decode cL_law 507 = .ok (.iload 4, 2) := by decide +kernel
theorem dL_law_509 : decode cL_law 509 = .ok (.iconst 2, 1) := by decide +kernel
theorem dL_law_510 : decode cL_law 510 = .ok (.iadd, 1) := by decide +kernel
theorem dL_law_511 : decode cL_law 511 = .ok (.iaload, 1) := by decide +kernel
theorem dL_law_512 : decode cL_law 512 = .ok (.invokevirtual 63, 3) := by decide +kernel
theorem dL_law_515 : decode cL_law 515 = .ok (.aload_n 2, 1) := by decide +kernel
theorem dL_law_516 : decode cL_law 516 = .ok (.aload_n 0, 1) := by decide +kernel
theorem dL_law_517 : decode cL_law 517 = .ok (.iload 4, 2) := by decide +kernel
theorem dL_law_519 : decode cL_law 519 = .ok (.iconst 1, 1) := by decide +kernel
theorem dL_law_520 : decode cL_law 520 = .ok (.iadd, 1) := by decide +kernel
theorem dL_law_521 : decode cL_law 521 = .ok (.iaload, 1) := by decide +kernel
theorem dL_law_522 : decode cL_law 522 = .ok (.aload_n 0, 1) := by decide +kernel
theorem dL_law_523 : decode cL_law 523 = .ok (.iload 4, 2) := by decide +kernel
theorem dL_law_525 : decode cL_law 525 = .ok (.iconst 2, 1) := by decide +kernel
theorem dL_law_526 : decode cL_law 526 = .ok (.iadd, 1) := by decide +kernel
theorem dL_law_527 : decode cL_law 527 = .ok (.iaload, 1) := by decide +kernel
theorem dL_law_528 : decode cL_law 528 = .ok (.invokevirtual 66, 3) := by decide +kernel
theorem dL_law_531 : decode cL_law 531 = .ok (.if_icmp .eq 761, 3) := by decide +kernel
theorem dL_law_534 : decode cL_law 534 = .ok (.iconst 0, 1) := by decide +kernel
theorem dL_law_535 : decode cL_law 535 = .ok (.ireturn, 1) := by decide +kernel
theorem dL_law_536 : decode cL_law 536 = .ok (.aload_n 1, 1) := by decide +kernel
theorem dL_law_537 : decode cL_law 537 = .ok (.aload_n 0, 1) := by decide +kernel
theorem dL_law_538 : decode cL_law 538 = .ok (.iload 4, 2) := by decide +kernel
theorem dL_law_540 : decode cL_law 540 = .ok (.iconst 1, 1) := by decide +kernel
theorem dL_law_541 : decode cL_law 541 = .ok (.iadd, 1) := by decide +kernel
theorem dL_law_542 : decode cL_law 542 = .ok (.iaload, 1) := by decide +kernel
theorem dL_law_543 : decode cL_law 543 = .ok (.aload_n 0, 1) := by decide +kernel
theorem dL_law_544 : decode cL_law 544 = .ok (.iload 4, 2) := by decide +kernel
theorem dL_law_546 : decode cL_law 546 = .ok (.iconst 2, 1) := by decide +kernel
theorem dL_law_547 : decode cL_law 547 = .ok (.iadd, 1) := by decide +kernel
theorem dL_law_548 : decode cL_law 548 = .ok (.iaload, 1) := by decide +kernel
theorem dL_law_549 : decode cL_law 549 = .ok (.invokevirtual 67, 3) := by decide +kernel
theorem dL_law_552 : decode cL_law 552 = .ok (.aload_n 2, 1) := by decide +kernel
theorem dL_law_553 : decode cL_law 553 = .ok (.aload_n 0, 1) := by decide +kernel
theorem dL_law_554 : decode cL_law 554 = .ok (.iload 4, 2) := by decide +kernel
theorem dL_law_556 : decode cL_law 556 = .ok (.iconst 1, 1) := by decide +kernel
theorem dL_law_557 : decode cL_law 557 = .ok (.iadd, 1) := by decide +kernel
theorem dL_law_558 : decode cL_law 558 = .ok (.iaload, 1) := by decide +kernel
theorem dL_law_559 : decode cL_law 559 = .ok (.aload_n 0, 1) := by decide +kernel
theorem dL_law_560 : decode cL_law 560 = .ok (.iload 4, 2) := by decide +kernel
theorem dL_law_562 : decode cL_law 562 = .ok (.iconst 2, 1) := by decide +kernel
theorem dL_law_563 : decode cL_law 563 = .ok (.iadd, 1) := by decide +kernel
theorem dL_law_564 : decode cL_law 564 = .ok (.iaload, 1) := by decide +kernel
theorem dL_law_565 : decode cL_law 565 = .ok (.invokevirtual 70, 3) := by decide +kernel
theorem dL_law_568 : decode cL_law 568 = .ok (.if_icmp .eq 724, 3) := by decide +kernel
theorem dL_law_571 : decode cL_law 571 = .ok (.iconst 0, 1) := by decide +kernel
theorem dL_law_572 : decode cL_law 572 = .ok (.ireturn, 1) := by decide +kernel
theorem dL_law_573 : decode cL_law 573 = .ok (.aload_n 1, 1) := by decide +kernel
theorem dL_law_574 : decode cL_law 574 = .ok (.aload_n 0, 1) := by decide +kernel
theorem dL_law_575 : decode cL_law 575 = .ok (.iload 4, 2) := by decide +kernel
theorem dL_law_577 : decode cL_law 577 = .ok (.iconst 1, 1) := by decide +kernel
theorem dL_law_578 : decode cL_law 578 = .ok (.iadd, 1) := by decide +kernel
theorem dL_law_579 : decode cL_law 579 = .ok (.iaload, 1) := by decide +kernel
theorem dL_law_580 : decode cL_law 580 = .ok (.invokevirtual 71, 3) := by decide +kernel
theorem dL_law_583 : decode cL_law 583 = .ok (.aload_n 2, 1) := by decide +kernel
theorem dL_law_584 : decode cL_law 584 = .ok (.aload_n 0, 1) := by decide +kernel
theorem dL_law_585 : decode cL_law 585 = .ok (.iload 4, 2) := by decide +kernel
theorem dL_law_587 : decode cL_law 587 = .ok (.iconst 1, 1) := by decide +kernel
theorem dL_law_588 : decode cL_law 588 = .ok (.iadd, 1) := by decide +kernel
theorem dL_law_589 : decode cL_law 589 = .ok (.iaload, 1) := by decide +kernel
theorem dL_law_590 : decode cL_law 590 = .ok (.invokevirtual 74, 3) := by decide +kernel
theorem dL_law_593 : decode cL_law 593 = .ok (.if_icmp .eq 699, 3) := by decide +kernel
theorem dL_law_596 : decode cL_law 596 = .ok (.iconst 0, 1) := by decide +kernel
theorem dL_law_597 : decode cL_law 597 = .ok (.ireturn, 1) := by decide +kernel
theorem dL_law_598 : decode cL_law 598 = .ok (.aload_n 1, 1) := by decide +kernel
theorem dL_law_599 : decode cL_law 599 = .ok (.aload_n 0, 1) := by decide +kernel
theorem dL_law_600 : decode cL_law 600 = .ok (.iload 4, 2) := by decide +kernel
theorem dL_law_602 : decode cL_law 602 = .ok (.iconst 1, 1) := by decide +kernel
theorem dL_law_603 : decode cL_law 603 = .ok (.iadd, 1) := by decide +kernel
theorem dL_law_604 : decode cL_law 604 = .ok (.iaload, 1) := by decide +kernel
theorem dL_law_605 : decode cL_law 605 = .ok (.aload_n 0, 1) := by decide +kernel
theorem dL_law_606 : decode cL_law 606 = .ok (.iload 4, 2) := by decide +kernel
theorem dL_law_608 : decode cL_law 608 = .ok (.iconst 2, 1) := by decide +kernel
theorem dL_law_609 : decode cL_law 609 = .ok (.iadd, 1) := by decide +kernel
theorem dL_law_610 : decode cL_law 610 = .ok (.iaload, 1) := by decide +kernel
theorem dL_law_611 : decode cL_law 611 = .ok (.invokevirtual 75, 3) := by decide +kernel
theorem dL_law_614 : decode cL_law 614 = .ok (.aload_n 2, 1) := by decide +kernel
theorem dL_law_615 : decode cL_law 615 = .ok (.aload_n 0, 1) := by decide +kernel
theorem dL_law_616 : decode cL_law 616 = .ok (.iload 4, 2) := by decide +kernel
theorem dL_law_618 : decode cL_law 618 = .ok (.iconst 1, 1) := by decide +kernel
theorem dL_law_619 : decode cL_law 619 = .ok (.iadd, 1) := by decide +kernel
theorem dL_law_620 : decode cL_law 620 = .ok (.iaload, 1) := by decide +kernel
theorem dL_law_621 : decode cL_law 621 = .ok (.aload_n 0, 1) := by decide +kernel
theorem dL_law_622 : decode cL_law 622 = .ok (.iload 4, 2) := by decide +kernel
theorem dL_law_624 : decode cL_law 624 = .ok (.iconst 2, 1) := by decide +kernel
theorem dL_law_625 : decode cL_law 625 = .ok (.iadd, 1) := by decide +kernel
theorem dL_law_626 : decode cL_law 626 = .ok (.iaload, 1) := by decide +kernel
theorem dL_law_627 : decode cL_law 627 = .ok (.invokevirtual 78, 3) := by decide +kernel
theorem dL_law_630 : decode cL_law 630 = .ok (.if_icmp .eq 662, 3) := by decide +kernel
theorem dL_law_633 : decode cL_law 633 = .ok (.iconst 0, 1) := by decide +kernel
theorem dL_law_634 : decode cL_law 634 = .ok (.ireturn, 1) := by decide +kernel
theorem dL_law_635 : decode cL_law 635 = .ok (.aload_n 1, 1) := by decide +kernel
theorem dL_law_636 : decode cL_law 636 = .ok (.aload_n 0, 1) := by decide +kernel
theorem dL_law_637 : decode cL_law 637 = .ok (.iload 4, 2) := by decide +kernel
theorem dL_law_639 : decode cL_law 639 = .ok (.iconst 1, 1) := by decide +kernel
theorem dL_law_640 : decode cL_law 640 = .ok (.iadd, 1) := by decide +kernel
theorem dL_law_641 : decode cL_law 641 = .ok (.iaload, 1) := by decide +kernel
theorem dL_law_642 : decode cL_law 642 = .ok (.aload_n 0, 1) := by decide +kernel
theorem dL_law_643 : decode cL_law 643 = .ok (.iload 4, 2) := by decide +kernel
theorem dL_law_645 : decode cL_law 645 = .ok (.iconst 2, 1) := by decide +kernel
theorem dL_law_646 : decode cL_law 646 = .ok (.iadd, 1) := by decide +kernel
theorem dL_law_647 : decode cL_law 647 = .ok (.iaload, 1) := by decide +kernel
theorem dL_law_648 : decode cL_law 648 = .ok (.invokevirtual 79, 3) := by decide +kernel
theorem dL_law_651 : decode cL_law 651 = .ok (.aload_n 2, 1) := by decide +kernel
theorem dL_law_652 : decode cL_law 652 = .ok (.aload_n 0, 1) := by decide +kernel
theorem dL_law_653 : decode cL_law 653 = .ok (.iload 4, 2) := by decide +kernel
theorem dL_law_655 : decode cL_law 655 = .ok (.iconst 1, 1) := by decide +kernel
theorem dL_law_656 : decode cL_law 656 = .ok (.iadd, 1) := by decide +kernel
theorem dL_law_657 : decode cL_law 657 = .ok (.iaload, 1) := by decide +kernel
theorem dL_law_658 : decode cL_law 658 = .ok (.aload_n 0, 1) := by decide +kernel
theorem dL_law_659 : decode cL_law 659 = .ok (.iload 4, 2) := by decide +kernel
theorem dL_law_661 : decode cL_law 661 = .ok (.iconst 2, 1) := by decide +kernel
theorem dL_law_662 : decode cL_law 662 = .ok (.iadd, 1) := by decide +kernel
theorem dL_law_663 : decode cL_law 663 = .ok (.iaload, 1) := by decide +kernel
theorem dL_law_664 : decode cL_law 664 = .ok (.invokevirtual 82, 3) := by decide +kernel
theorem dL_law_667 : decode cL_law 667 = .ok (.if_icmp .eq 625, 3) := by decide +kernel
theorem dL_law_670 : decode cL_law 670 = .ok (.iconst 0, 1) := by decide +kernel
theorem dL_law_671 : decode cL_law 671 = .ok (.ireturn, 1) := by decide +kernel
theorem dL_law_672 : decode cL_law 672 = .ok (.aload_n 1, 1) := by decide +kernel
theorem dL_law_673 : decode cL_law 673 = .ok (.aload_n 0, 1) := by decide +kernel
theorem dL_law_674 : decode cL_law 674 = .ok (.iload 4, 2) := by decide +kernel
theorem dL_law_676 : decode cL_law 676 = .ok (.iconst 1, 1) := by decide +kernel
theorem dL_law_677 : decode cL_law 677 = .ok (.iadd, 1) := by decide +kernel
theorem dL_law_678 : decode cL_law 678 = .ok (.iaload, 1) := by decide +kernel
theorem dL_law_679 : decode cL_law 679 = .ok (.invokevirtual 83, 3) := by decide +kernel
theorem dL_law_682 : decode cL_law 682 = .ok (.aload_n 2, 1) := by decide +kernel
theorem dL_law_683 : decode cL_law 683 = .ok (.aload_n 0, 1) := by decide +kernel
theorem dL_law_684 : decode cL_law 684 = .ok (.iload 4, 2) := by decide +kernel
theorem dL_law_686 : decode cL_law 686 = .ok (.iconst 1, 1) := by decide +kernel
theorem dL_law_687 : decode cL_law 687 = .ok (.iadd, 1) := by decide +kernel
theorem dL_law_688 : decode cL_law 688 = .ok (.iaload, 1) := by decide +kernel
theorem dL_law_689 : decode cL_law 689 = .ok (.invokevirtual 86, 3) := by decide +kernel
theorem dL_law_692 : decode cL_law 692 = .ok (.if_icmp .eq 600, 3) := by decide +kernel
theorem dL_law_695 : decode cL_law 695 = .ok (.iconst 0, 1) := by decide +kernel
theorem dL_law_696 : decode cL_law 696 = .ok (.ireturn, 1) := by decide +kernel
theorem dL_law_697 : decode cL_law 697 = .ok (.aload_n 1, 1) := by decide +kernel
theorem dL_law_698 : decode cL_law 698 = .ok (.invokevirtual 87, 3) := by decide +kernel
theorem dL_law_701 : decode cL_law 701 = .ok (.aload_n 2, 1) := by decide +kernel
theorem dL_law_702 : decode cL_law 702 = .ok (.invokevirtual 90, 3) := by decide +kernel
theorem dL_law_705 : decode cL_law 705 = .ok (.if_icmp .eq 587, 3) := by decide +kernel
theorem dL_law_708 : decode cL_law 708 = .ok (.iconst 0, 1) := by decide +kernel
theorem dL_law_709 : decode cL_law 709 = .ok (.ireturn, 1) := by decide +kernel
theorem dL_law_710 : decode cL_law 710 = .ok (.aload_n 1, 1) := by decide +kernel
theorem dL_law_711 : decode cL_law 711 = .ok (.aload_n 0, 1) := by decide +kernel
theorem dL_law_712 : decode cL_law 712 = .ok (.iload 4, 2) := by decide +kernel
theorem dL_law_714 : decode cL_law 714 = .ok (.iconst 1, 1) := by decide +kernel
theorem dL_law_715 : decode cL_law 715 = .ok (.iadd, 1) := by decide +kernel
theorem dL_law_716 : decode cL_law 716 = .ok (.iaload, 1) := by decide +kernel
theorem dL_law_717 : decode cL_law 717 = .ok (.invokevirtual 91, 3) := by decide +kernel
theorem dL_law_720 : decode cL_law 720 = .ok (.aload_n 2, 1) := by decide +kernel
theorem dL_law_721 : decode cL_law 721 = .ok (.aload_n 0, 1) := by decide +kernel
theorem dL_law_722 : decode cL_law 722 = .ok (.iload 4, 2) := by decide +kernel
theorem dL_law_724 : decode cL_law 724 = .ok (.iconst 1, 1) := by decide +kernel
theorem dL_law_725 : decode cL_law 725 = .ok (.iadd, 1) := by decide +kernel
theorem dL_law_726 : decode cL_law 726 = .ok (.iaload, 1) := by decide +kernel
theorem dL_law_727 : decode cL_law 727 = .ok (.invokevirtual 94, 3) := by decide +kernel
theorem dL_law_730 : decode cL_law 730 = .ok (.if_icmp .eq 562, 3) := by decide +kernel
theorem dL_law_733 : decode cL_law 733 = .ok (.iconst 0, 1) := by decide +kernel
theorem dL_law_734 : decode cL_law 734 = .ok (.ireturn, 1) := by decide +kernel
theorem dL_law_735 : decode cL_law 735 = .ok (.aload_n 1, 1) := by decide +kernel
theorem dL_law_736 : decode cL_law 736 = .ok (.invokevirtual 95, 3) := by decide +kernel
theorem dL_law_739 : decode cL_law 739 = .ok (.aload_n 2, 1) := by decide +kernel
theorem dL_law_740 : decode cL_law 740 = .ok (.invokevirtual 98, 3) := by decide +kernel
theorem dL_law_743 : decode cL_law 743 = .ok (.if_icmp .eq 549, 3) := by decide +kernel
theorem dL_law_746 : decode cL_law 746 = .ok (.iconst 0, 1) := by decide +kernel
theorem dL_law_747 : decode cL_law 747 = .ok (.ireturn, 1) := by decide +kernel
theorem dL_law_748 : decode cL_law 748 = .ok (.aload_n 1, 1) := by decide +kernel
theorem dL_law_749 : decode cL_law 749 = .ok (.invokevirtual 99, 3) := by decide +kernel
theorem dL_law_752 : decode cL_law 752 = .ok (.aload_n 2, 1) := by decide +kernel
theorem dL_law_753 : decode cL_law 753 = .ok (.invokevirtual 102, 3) := by decide +kernel
theorem dL_law_756 : decode cL_law 756 = .ok (.if_icmp .eq 536, 3) := by decide +kernel
theorem dL_law_759 : decode cL_law 759 = .ok (.iconst 0, 1) := by decide +kernel
theorem dL_law_760 : decode cL_law 760 = .ok (.ireturn, 1) := by decide +kernel
theorem dL_law_761 : decode cL_law 761 = .ok (.aload_n 1, 1) := by decide +kernel
theorem dL_law_762 : decode cL_law 762 = .ok (.aload_n 0, 1) := by decide +kernel
theorem dL_law_763 : decode cL_law 763 = .ok (.iload 4, 2) := by decide +kernel
theorem dL_law_765 : decode cL_law 765 = .ok (.iconst 1, 1) := by decide +kernel
theorem dL_law_766 : decode cL_law 766 = .ok (.iadd, 1) := by decide +kernel
theorem dL_law_767 : decode cL_law 767 = .ok (.iaload, 1) := by decide +kernel
theorem dL_law_768 : decode cL_law 768 = .ok (.aload_n 0, 1) := by decide +kernel
theorem dL_law_769 : decode cL_law 769 = .ok (.iload 4, 2) := by decide +kernel
theorem dL_law_771 : decode cL_law 771 = .ok (.iconst 2, 1) := by decide +kernel
theorem dL_law_772 : decode cL_law 772 = .ok (.iadd, 1) := by decide +kernel
theorem dL_law_773 : decode cL_law 773 = .ok (.iaload, 1) := by decide +kernel
theorem dL_law_774 : decode cL_law 774 = .ok (.invokevirtual 103, 3) := by decide +kernel
theorem dL_law_777 : decode cL_law 777 = .ok (.aload_n 2, 1) := by decide +kernel
theorem dL_law_778 : decode cL_law 778 = .ok (.aload_n 0, 1) := by decide +kernel
theorem dL_law_779 : decode cL_law 779 = .ok (.iload 4, 2) := by decide +kernel
theorem dL_law_781 : decode cL_law 781 = .ok (.iconst 1, 1) := by decide +kernel
theorem dL_law_782 : decode cL_law 782 = .ok (.iadd, 1) := by decide +kernel
theorem dL_law_783 : decode cL_law 783 = .ok (.iaload, 1) := by decide +kernel
theorem dL_law_784 : decode cL_law 784 = .ok (.aload_n 0, 1) := by decide +kernel
theorem dL_law_785 : decode cL_law 785 = .ok (.iload 4, 2) := by decide +kernel
theorem dL_law_787 : decode cL_law 787 = .ok (.iconst 2, 1) := by decide +kernel
theorem dL_law_788 : decode cL_law 788 = .ok (.iadd, 1) := by decide +kernel
theorem dL_law_789 : decode cL_law 789 = .ok (.iaload, 1) := by decide +kernel
theorem dL_law_790 : decode cL_law 790 = .ok (.invokevirtual 106, 3) := by decide +kernel
theorem dL_law_793 : decode cL_law 793 = .ok (.if_icmp .eq 499, 3) := by decide +kernel
theorem dL_law_796 : decode cL_law 796 = .ok (.iconst 0, 1) := by decide +kernel
theorem dL_law_797 : decode cL_law 797 = .ok (.ireturn, 1) := by decide +kernel
theorem dL_law_798 : decode cL_law 798 = .ok (.aload_n 1, 1) := by decide +kernel
theorem dL_law_799 : decode cL_law 799 = .ok (.aload_n 0, 1) := by decide +kernel
theorem dL_law_800 : decode cL_law 800 = .ok (.iload 4, 2) := by decide +kernel
theorem dL_law_802 : decode cL_law 802 = .ok (.iconst 1, 1) := by decide +kernel
theorem dL_law_803 : decode cL_law 803 = .ok (.iadd, 1) := by decide +kernel
theorem dL_law_804 : decode cL_law 804 = .ok (.iaload, 1) := by decide +kernel
theorem dL_law_805 : decode cL_law 805 = .ok (.invokevirtual 107, 3) := by decide +kernel
theorem dL_law_808 : decode cL_law 808 = .ok (.aload_n 2, 1) := by decide +kernel
theorem dL_law_809 : decode cL_law 809 = .ok (.aload_n 0, 1) := by decide +kernel
theorem dL_law_810 : decode cL_law 810 = .ok (.iload 4, 2) := by decide +kernel
theorem dL_law_812 : decode cL_law 812 = .ok (.iconst 1, 1) := by decide +kernel
theorem dL_law_813 : decode cL_law 813 = .ok (.iadd, 1) := by decide +kernel
theorem dL_law_814 : decode cL_law 814 = .ok (.iaload, 1) := by decide +kernel
theorem dL_law_815 : decode cL_law 815 = .ok (.invokevirtual 110, 3) := by decide +kernel
theorem dL_law_818 : decode cL_law 818 = .ok (.if_icmp .eq 474, 3) := by decide +kernel
theorem dL_law_821 : decode cL_law 821 = .ok (.iconst 0, 1) := by decide +kernel
theorem dL_law_822 : decode cL_law 822 = .ok (.ireturn, 1) := by decide +kernel
theorem dL_law_823 : decode cL_law 823 = .ok (.aload_n 1, 1) := by decide +kernel
theorem dL_law_824 : decode cL_law 824 = .ok (.invokevirtual 111, 3) := by decide +kernel
theorem dL_law_827 : decode cL_law 827 = .ok (.aload_n 2, 1) := by decide +kernel
theorem dL_law_828 : decode cL_law 828 = .ok (.invokevirtual 114, 3) := by decide +kernel
theorem dL_law_831 : decode cL_law 831 = .ok (.if_icmp .eq 461, 3) := by decide +kernel
theorem dL_law_834 : decode cL_law 834 = .ok (.iconst 0, 1) := by decide +kernel
theorem dL_law_835 : decode cL_law 835 = .ok (.ireturn, 1) := by decide +kernel
theorem dL_law_836 : decode cL_law 836 = .ok (.aload_n 1, 1) := by decide +kernel
theorem dL_law_837 : decode cL_law 837 = .ok (.invokevirtual 115, 3) := by decide +kernel
theorem dL_law_840 : decode cL_law 840 = .ok (.aload_n 2, 1) := by decide +kernel
theorem dL_law_841 : decode cL_law 841 = .ok (.invokevirtual 118, 3) := by decide +kernel
theorem dL_law_844 : decode cL_law 844 = .ok (.if_icmp .eq 448, 3) := by decide +kernel
theorem dL_law_847 : decode cL_law 847 = .ok (.iconst 0, 1) := by decide +kernel
theorem dL_law_848 : decode cL_law 848 = .ok (.ireturn, 1) := by decide +kernel
theorem dL_law_849 : decode cL_law 849 = .ok (.aload_n 1, 1) := by decide +kernel
theorem dL_law_850 : decode cL_law 850 = .ok (.aload_n 0, 1) := by decide +kernel
theorem dL_law_851 : decode cL_law 851 = .ok (.iload 4, 2) := by decide +kernel
theorem dL_law_853 : decode cL_law 853 = .ok (.iconst 1, 1) := by decide +kernel
theorem dL_law_854 : decode cL_law 854 = .ok (.iadd, 1) := by decide +kernel
theorem dL_law_855 : decode cL_law 855 = .ok (.iaload, 1) := by decide +kernel
theorem dL_law_856 : decode cL_law 856 = .ok (.invokevirtual 119, 3) := by decide +kernel
theorem dL_law_859 : decode cL_law 859 = .ok (.aload_n 2, 1) := by decide +kernel
theorem dL_law_860 : decode cL_law 860 = .ok (.aload_n 0, 1) := by decide +kernel
theorem dL_law_861 : decode cL_law 861 = .ok (.iload 4, 2) := by decide +kernel
theorem dL_law_863 : decode cL_law 863 = .ok (.iconst 1, 1) := by decide +kernel
theorem dL_law_864 : decode cL_law 864 = .ok (.iadd, 1) := by decide +kernel
theorem dL_law_865 : decode cL_law 865 = .ok (.iaload, 1) := by decide +kernel
theorem dL_law_866 : decode cL_law 866 = .ok (.invokevirtual 122, 3) := by decide +kernel
theorem dL_law_869 : decode cL_law 869 = .ok (.if_icmp .eq 423, 3) := by decide +kernel
theorem dL_law_872 : decode cL_law 872 = .ok (.iconst 0, 1) := by decide +kernel
theorem dL_law_873 : decode cL_law 873 = .ok (.ireturn, 1) := by decide +kernel
theorem dL_law_874 : decode cL_law 874 = .ok (.aload_n 1, 1) := by decide +kernel
theorem dL_law_875 : decode cL_law 875 = .ok (.invokevirtual 123, 3) := by decide +kernel
theorem dL_law_878 : decode cL_law 878 = .ok (.aload_n 2, 1) := by decide +kernel
theorem dL_law_879 : decode cL_law 879 = .ok (.invokevirtual 126, 3) := by decide +kernel
theorem dL_law_882 : decode cL_law 882 = .ok (.if_icmp .eq 410, 3) := by decide +kernel
theorem dL_law_885 : decode cL_law 885 = .ok (.iconst 0, 1) := by decide +kernel
theorem dL_law_886 : decode cL_law 886 = .ok (.ireturn, 1) := by decide +kernel
theorem dL_law_887 : decode cL_law 887 = .ok (.aload_n 1, 1) := by decide +kernel
theorem dL_law_888 : decode cL_law 888 = .ok (.aload_n 0, 1) := by decide +kernel
theorem dL_law_889 : decode cL_law 889 = .ok (.iload 4, 2) := by decide +kernel
theorem dL_law_891 : decode cL_law 891 = .ok (.iconst 1, 1) := by decide +kernel
theorem dL_law_892 : decode cL_law 892 = .ok (.iadd, 1) := by decide +kernel
theorem dL_law_893 : decode cL_law 893 = .ok (.iaload, 1) := by decide +kernel
theorem dL_law_894 : decode cL_law 894 = .ok (.aload_n 0, 1) := by decide +kernel
theorem dL_law_895 : decode cL_law 895 = .ok (.iload 4, 2) := by decide +kernel
theorem dL_law_897 : decode cL_law 897 = .ok (.iconst 2, 1) := by decide +kernel
theorem dL_law_898 : decode cL_law 898 = .ok (.iadd, 1) := by decide +kernel
theorem dL_law_899 : decode cL_law 899 = .ok (.iaload, 1) := by decide +kernel
theorem dL_law_900 : decode cL_law 900 = .ok (.invokevirtual 127, 3) := by decide +kernel
theorem dL_law_903 : decode cL_law 903 = .ok (.aload_n 2, 1) := by decide +kernel
theorem dL_law_904 : decode cL_law 904 = .ok (.aload_n 0, 1) := by decide +kernel
theorem dL_law_905 : decode cL_law 905 = .ok (.iload 4, 2) := by decide +kernel
theorem dL_law_907 : decode cL_law 907 = .ok (.iconst 1, 1) := by decide +kernel
theorem dL_law_908 : decode cL_law 908 = .ok (.iadd, 1) := by decide +kernel
theorem dL_law_909 : decode cL_law 909 = .ok (.iaload, 1) := by decide +kernel
theorem dL_law_910 : decode cL_law 910 = .ok (.aload_n 0, 1) := by decide +kernel
theorem dL_law_911 : decode cL_law 911 = .ok (.iload 4, 2) := by decide +kernel
theorem dL_law_913 : decode cL_law 913 = .ok (.iconst 2, 1) := by decide +kernel
theorem dL_law_914 : decode cL_law 914 = .ok (.iadd, 1) := by decide +kernel
theorem dL_law_915 : decode cL_law 915 = .ok (.iaload, 1) := by decide +kernel
theorem dL_law_916 : decode cL_law 916 = .ok (.invokevirtual 130, 3) := by decide +kernel
theorem dL_law_919 : decode cL_law 919 = .ok (.if_icmp .eq 373, 3) := by decide +kernel
theorem dL_law_922 : decode cL_law 922 = .ok (.iconst 0, 1) := by decide +kernel
theorem dL_law_923 : decode cL_law 923 = .ok (.ireturn, 1) := by decide +kernel
theorem dL_law_924 : decode cL_law 924 = .ok (.aload_n 1, 1) := by decide +kernel
theorem dL_law_925 : decode cL_law 925 = .ok (.invokevirtual 131, 3) := by decide +kernel
theorem dL_law_928 : decode cL_law 928 = .ok (.aload_n 2, 1) := by decide +kernel
theorem dL_law_929 : decode cL_law 929 = .ok (.invokevirtual 134, 3) := by decide +kernel
theorem dL_law_932 : decode cL_law 932 = .ok (.if_icmp .eq 360, 3) := by decide +kernel
theorem dL_law_935 : decode cL_law 935 = .ok (.iconst 0, 1) := by decide +kernel
theorem dL_law_936 : decode cL_law 936 = .ok (.ireturn, 1) := by decide +kernel
theorem dL_law_937 : decode cL_law 937 = .ok (.aload_n 1, 1) := by decide +kernel
theorem dL_law_938 : decode cL_law 938 = .ok (.aload_n 0, 1) := by decide +kernel
theorem dL_law_939 : decode cL_law 939 = .ok (.iload 4, 2) := by decide +kernel
theorem dL_law_941 : decode cL_law 941 = .ok (.iconst 1, 1) := by decide +kernel
theorem dL_law_942 : decode cL_law 942 = .ok (.iadd, 1) := by decide +kernel
theorem dL_law_943 : decode cL_law 943 = .ok (.iaload, 1) := by decide +kernel
theorem dL_law_944 : decode cL_law 944 = .ok (.aload_n 3, 1) := by decide +kernel
theorem dL_law_945 : decode cL_law 945 = .ok (.invokestatic 135, 3) := by decide +kernel
theorem dL_law_948 : decode cL_law 948 = .ok (.istore 5, 2) := by decide +kernel
theorem dL_law_950 : decode cL_law 950 = .ok (.aload_n 2, 1) := by decide +kernel
theorem dL_law_951 : decode cL_law 951 = .ok (.aload_n 0, 1) := by decide +kernel
theorem dL_law_952 : decode cL_law 952 = .ok (.iload 4, 2) := by decide +kernel
theorem dL_law_954 : decode cL_law 954 = .ok (.iconst 1, 1) := by decide +kernel
theorem dL_law_955 : decode cL_law 955 = .ok (.iadd, 1) := by decide +kernel
theorem dL_law_956 : decode cL_law 956 = .ok (.iaload, 1) := by decide +kernel
theorem dL_law_957 : decode cL_law 957 = .ok (.invokevirtual 138, 3) := by decide +kernel
theorem dL_law_960 : decode cL_law 960 = .ok (.istore 6, 2) := by decide +kernel
theorem dL_law_962 : decode cL_law 962 = .ok (.aload_n 2, 1) := by decide +kernel
theorem dL_law_963 : decode cL_law 963 = .ok (.invokevirtual 52, 3) := by decide +kernel
theorem dL_law_966 : decode cL_law 966 = .ok (.iload 5, 2) := by decide +kernel
theorem dL_law_968 : decode cL_law 968 = .ok (.if_icmp .eq 5, 3) := by decide +kernel
theorem dL_law_971 : decode cL_law 971 = .ok (.iconst 0, 1) := by decide +kernel
theorem dL_law_972 : decode cL_law 972 = .ok (.ireturn, 1) := by decide +kernel
theorem dL_law_973 : decode cL_law 973 = .ok (.iload 5, 2) := by decide +kernel
theorem dL_law_975 : decode cL_law 975 = .ok (.ifCond .ne 15, 3) := by decide +kernel
theorem dL_law_978 : decode cL_law 978 = .ok (.aload_n 3, 1) := by decide +kernel
theorem dL_law_979 : decode cL_law 979 = .ok (.iconst 0, 1) := by decide +kernel
theorem dL_law_980 : decode cL_law 980 = .ok (.laload, 1) := by decide +kernel
theorem dL_law_981 : decode cL_law 981 = .ok (.iload 6, 2) := by decide +kernel
theorem dL_law_983 : decode cL_law 983 = .ok (.i2l, 1) := by decide +kernel
theorem dL_law_984 : decode cL_law 984 = .ok (.lcmp, 1) := by decide +kernel
theorem dL_law_985 : decode cL_law 985 = .ok (.ifCond .eq 5, 3) := by decide +kernel
theorem dL_law_988 : decode cL_law 988 = .ok (.iconst 0, 1) := by decide +kernel
theorem dL_law_989 : decode cL_law 989 = .ok (.ireturn, 1) := by decide +kernel
theorem dL_law_990 : decode cL_law 990 = .ok (.goto 302, 3) := by decide +kernel
theorem dL_law_993 : decode cL_law 993 = .ok (.aload_n 1, 1) := by decide +kernel
theorem dL_law_994 : decode cL_law 994 = .ok (.aload_n 0, 1) := by decide +kernel
theorem dL_law_995 : decode cL_law 995 = .ok (.iload 4, 2) := by decide +kernel
theorem dL_law_997 : decode cL_law 997 = .ok (.iconst 1, 1) := by decide +kernel
theorem dL_law_998 : decode cL_law 998 = .ok (.iadd, 1) := by decide +kernel
theorem dL_law_999 : decode cL_law 999 = .ok (.iaload, 1) := by decide +kernel
theorem dL_law_1000 : decode cL_law 1000 = .ok (.invokevirtual 139, 3) := by decide +kernel
theorem dL_law_1003 : decode cL_law 1003 = .ok (.aload_n 2, 1) := by decide +kernel
theorem dL_law_1004 : decode cL_law 1004 = .ok (.aload_n 0, 1) := by decide +kernel
theorem dL_law_1005 : decode cL_law 1005 = .ok (.iload 4, 2) := by decide +kernel
theorem dL_law_1007 : decode cL_law 1007 = .ok (.iconst 1, 1) := by decide +kernel
theorem dL_law_1008 : decode cL_law 1008 = .ok (.iadd, 1) := by decide +kernel
theorem dL_law_1009 : decode cL_law 1009 = .ok (.iaload, 1) := by decide +kernel
theorem dL_law_1010 : decode cL_law 1010 = .ok (.invokevirtual 142, 3) := by decide +kernel
theorem dL_law_1013 : decode cL_law 1013 = .ok (.if_icmp .eq 279, 3) := by decide +kernel
theorem dL_law_1016 : decode cL_law 1016 = .ok (.iconst 0, 1) := by decide +kernel
theorem dL_law_1017 : decode cL_law 1017 = .ok (.ireturn, 1) := by decide +kernel
theorem dL_law_1018 : decode cL_law 1018 = .ok (.aload_n 1, 1) := by decide +kernel
theorem dL_law_1019 : decode cL_law 1019 = .ok (.aload_n 0, 1) := by decide +kernel
theorem dL_law_1020 : decode cL_law 1020 = .ok (.iload 4, 2) := by decide +kernel
theorem dL_law_1022 : decode cL_law 1022 = .ok (.iconst 1, 1) := by decide +kernel
theorem dL_law_1023 : decode cL_law 1023 = .ok (.iadd, 1) := by decide +kernel
theorem dL_law_1024 : decode cL_law 1024 = .ok (.iaload, 1) := by decide +kernel
theorem dL_law_1025 : decode cL_law 1025 = .ok (.invokevirtual 143, 3) := by decide +kernel
theorem dL_law_1028 : decode cL_law 1028 = .ok (.aload_n 2, 1) := by decide +kernel
theorem dL_law_1029 : decode cL_law 1029 = .ok (.aload_n 0, 1) := by decide +kernel
theorem dL_law_1030 : decode cL_law 1030 = .ok (.iload 4, 2) := by decide +kernel
theorem dL_law_1032 : decode cL_law 1032 = .ok (.iconst 1, 1) := by decide +kernel
theorem dL_law_1033 : decode cL_law 1033 = .ok (.iadd, 1) := by decide +kernel
theorem dL_law_1034 : decode cL_law 1034 = .ok (.iaload, 1) := by decide +kernel
theorem dL_law_1035 : decode cL_law 1035 = .ok (.invokevirtual 146, 3) := by decide +kernel
theorem dL_law_1038 : decode cL_law 1038 = .ok (.if_icmp .eq 254, 3) := by decide +kernel
theorem dL_law_1041 : decode cL_law 1041 = .ok (.iconst 0, 1) := by decide +kernel
theorem dL_law_1042 : decode cL_law 1042 = .ok (.ireturn, 1) := by decide +kernel
theorem dL_law_1043 : decode cL_law 1043 = .ok (.aload_n 1, 1) := by decide +kernel
theorem dL_law_1044 : decode cL_law 1044 = .ok (.aload_n 0, 1) := by decide +kernel
theorem dL_law_1045 : decode cL_law 1045 = .ok (.iload 4, 2) := by decide +kernel
theorem dL_law_1047 : decode cL_law 1047 = .ok (.iconst 1, 1) := by decide +kernel
theorem dL_law_1048 : decode cL_law 1048 = .ok (.iadd, 1) := by decide +kernel
theorem dL_law_1049 : decode cL_law 1049 = .ok (.iaload, 1) := by decide +kernel
theorem dL_law_1050 : decode cL_law 1050 = .ok (.aload_n 0, 1) := by decide +kernel
theorem dL_law_1051 : decode cL_law 1051 = .ok (.iload 4, 2) := by decide +kernel
theorem dL_law_1053 : decode cL_law 1053 = .ok (.iconst 2, 1) := by decide +kernel
theorem dL_law_1054 : decode cL_law 1054 = .ok (.iadd, 1) := by decide +kernel
theorem dL_law_1055 : decode cL_law 1055 = .ok (.iaload, 1) := by decide +kernel
theorem dL_law_1056 : decode cL_law 1056 = .ok (.invokevirtual 147, 3) := by decide +kernel
theorem dL_law_1059 : decode cL_law 1059 = .ok (.aload_n 2, 1) := by decide +kernel
theorem dL_law_1060 : decode cL_law 1060 = .ok (.aload_n 0, 1) := by decide +kernel
theorem dL_law_1061 : decode cL_law 1061 = .ok (.iload 4, 2) := by decide +kernel
theorem dL_law_1063 : decode cL_law 1063 = .ok (.iconst 1, 1) := by decide +kernel
theorem dL_law_1064 : decode cL_law 1064 = .ok (.iadd, 1) := by decide +kernel
theorem dL_law_1065 : decode cL_law 1065 = .ok (.iaload, 1) := by decide +kernel
theorem dL_law_1066 : decode cL_law 1066 = .ok (.aload_n 0, 1) := by decide +kernel
theorem dL_law_1067 : decode cL_law 1067 = .ok (.iload 4, 2) := by decide +kernel
theorem dL_law_1069 : decode cL_law 1069 = .ok (.iconst 2, 1) := by decide +kernel
theorem dL_law_1070 : decode cL_law 1070 = .ok (.iadd, 1) := by decide +kernel
theorem dL_law_1071 : decode cL_law 1071 = .ok (.iaload, 1) := by decide +kernel
theorem dL_law_1072 : decode cL_law 1072 = .ok (.invokevirtual 150, 3) := by decide +kernel
theorem dL_law_1075 : decode cL_law 1075 = .ok (.if_icmp .eq 217, 3) := by decide +kernel
theorem dL_law_1078 : decode cL_law 1078 = .ok (.iconst 0, 1) := by decide +kernel
theorem dL_law_1079 : decode cL_law 1079 = .ok (.ireturn, 1) := by decide +kernel
theorem dL_law_1080 : decode cL_law 1080 = .ok (.aload_n 1, 1) := by decide +kernel
theorem dL_law_1081 : decode cL_law 1081 = .ok (.aload_n 0, 1) := by decide +kernel
theorem dL_law_1082 : decode cL_law 1082 = .ok (.iload 4, 2) := by decide +kernel
theorem dL_law_1084 : decode cL_law 1084 = .ok (.iconst 1, 1) := by decide +kernel
theorem dL_law_1085 : decode cL_law 1085 = .ok (.iadd, 1) := by decide +kernel
theorem dL_law_1086 : decode cL_law 1086 = .ok (.iaload, 1) := by decide +kernel
theorem dL_law_1087 : decode cL_law 1087 = .ok (.aload_n 0, 1) := by decide +kernel
theorem dL_law_1088 : decode cL_law 1088 = .ok (.iload 4, 2) := by decide +kernel
theorem dL_law_1090 : decode cL_law 1090 = .ok (.iconst 2, 1) := by decide +kernel
theorem dL_law_1091 : decode cL_law 1091 = .ok (.iadd, 1) := by decide +kernel
theorem dL_law_1092 : decode cL_law 1092 = .ok (.iaload, 1) := by decide +kernel
theorem dL_law_1093 : decode cL_law 1093 = .ok (.aload_n 0, 1) := by decide +kernel
theorem dL_law_1094 : decode cL_law 1094 = .ok (.iload 4, 2) := by decide +kernel
theorem dL_law_1096 : decode cL_law 1096 = .ok (.iconst 3, 1) := by decide +kernel
theorem dL_law_1097 : decode cL_law 1097 = .ok (.iadd, 1) := by decide +kernel
theorem dL_law_1098 : decode cL_law 1098 = .ok (.iaload, 1) := by decide +kernel
theorem dL_law_1099 : decode cL_law 1099 = .ok (.invokevirtual 151, 3) := by decide +kernel
theorem dL_law_1102 : decode cL_law 1102 = .ok (.aload_n 2, 1) := by decide +kernel
theorem dL_law_1103 : decode cL_law 1103 = .ok (.aload_n 0, 1) := by decide +kernel
theorem dL_law_1104 : decode cL_law 1104 = .ok (.iload 4, 2) := by decide +kernel
theorem dL_law_1106 : decode cL_law 1106 = .ok (.iconst 1, 1) := by decide +kernel
theorem dL_law_1107 : decode cL_law 1107 = .ok (.iadd, 1) := by decide +kernel
theorem dL_law_1108 : decode cL_law 1108 = .ok (.iaload, 1) := by decide +kernel
theorem dL_law_1109 : decode cL_law 1109 = .ok (.aload_n 0, 1) := by decide +kernel
theorem dL_law_1110 : decode cL_law 1110 = .ok (.iload 4, 2) := by decide +kernel
theorem dL_law_1112 : decode cL_law 1112 = .ok (.iconst 2, 1) := by decide +kernel
theorem dL_law_1113 : decode cL_law 1113 = .ok (.iadd, 1) := by decide +kernel
theorem dL_law_1114 : decode cL_law 1114 = .ok (.iaload, 1) := by decide +kernel
theorem dL_law_1115 : decode cL_law 1115 = .ok (.aload_n 0, 1) := by decide +kernel
theorem dL_law_1116 : decode cL_law 1116 = .ok (.iload 4, 2) := by decide +kernel
theorem dL_law_1118 : decode cL_law 1118 = .ok (.iconst 3, 1) := by decide +kernel
theorem dL_law_1119 : decode cL_law 1119 = .ok (.iadd, 1) := by decide +kernel
theorem dL_law_1120 : decode cL_law 1120 = .ok (.iaload, 1) := by decide +kernel
theorem dL_law_1121 : decode cL_law 1121 = .ok (.invokevirtual 155, 3) := by decide +kernel
theorem dL_law_1124 : decode cL_law 1124 = .ok (.if_icmp .eq 168, 3) := by decide +kernel
theorem dL_law_1127 : decode cL_law 1127 = .ok (.iconst 0, 1) := by decide +kernel
theorem dL_law_1128 : decode cL_law 1128 = .ok (.ireturn, 1) := by decide +kernel
theorem dL_law_1129 : decode cL_law 1129 = .ok (.aload_n 1, 1) := by decide +kernel
theorem dL_law_1130 : decode cL_law 1130 = .ok (.aload_n 0, 1) := by decide +kernel
theorem dL_law_1131 : decode cL_law 1131 = .ok (.iload 4, 2) := by decide +kernel
theorem dL_law_1133 : decode cL_law 1133 = .ok (.iconst 1, 1) := by decide +kernel
theorem dL_law_1134 : decode cL_law 1134 = .ok (.iadd, 1) := by decide +kernel
theorem dL_law_1135 : decode cL_law 1135 = .ok (.iaload, 1) := by decide +kernel
theorem dL_law_1136 : decode cL_law 1136 = .ok (.invokevirtual 156, 3) := by decide +kernel
theorem dL_law_1139 : decode cL_law 1139 = .ok (.aload_n 2, 1) := by decide +kernel
theorem dL_law_1140 : decode cL_law 1140 = .ok (.aload_n 0, 1) := by decide +kernel
theorem dL_law_1141 : decode cL_law 1141 = .ok (.iload 4, 2) := by decide +kernel
theorem dL_law_1143 : decode cL_law 1143 = .ok (.iconst 1, 1) := by decide +kernel
theorem dL_law_1144 : decode cL_law 1144 = .ok (.iadd, 1) := by decide +kernel
theorem dL_law_1145 : decode cL_law 1145 = .ok (.iaload, 1) := by decide +kernel
theorem dL_law_1146 : decode cL_law 1146 = .ok (.invokevirtual 159, 3) := by decide +kernel
theorem dL_law_1149 : decode cL_law 1149 = .ok (.if_icmp .eq 143, 3) := by decide +kernel
theorem dL_law_1152 : decode cL_law 1152 = .ok (.iconst 0, 1) := by decide +kernel
theorem dL_law_1153 : decode cL_law 1153 = .ok (.ireturn, 1) := by decide +kernel
theorem dL_law_1154 : decode cL_law 1154 = .ok (.aload_n 1, 1) := by decide +kernel
theorem dL_law_1155 : decode cL_law 1155 = .ok (.aload_n 0, 1) := by decide +kernel
theorem dL_law_1156 : decode cL_law 1156 = .ok (.iload 4, 2) := by decide +kernel
theorem dL_law_1158 : decode cL_law 1158 = .ok (.iconst 1, 1) := by decide +kernel
theorem dL_law_1159 : decode cL_law 1159 = .ok (.iadd, 1) := by decide +kernel
theorem dL_law_1160 : decode cL_law 1160 = .ok (.iaload, 1) := by decide +kernel
theorem dL_law_1161 : decode cL_law 1161 = .ok (.invokevirtual 160, 3) := by decide +kernel
theorem dL_law_1164 : decode cL_law 1164 = .ok (.aload_n 2, 1) := by decide +kernel
theorem dL_law_1165 : decode cL_law 1165 = .ok (.aload_n 0, 1) := by decide +kernel
theorem dL_law_1166 : decode cL_law 1166 = .ok (.iload 4, 2) := by decide +kernel
theorem dL_law_1168 : decode cL_law 1168 = .ok (.iconst 1, 1) := by decide +kernel
theorem dL_law_1169 : decode cL_law 1169 = .ok (.iadd, 1) := by decide +kernel
theorem dL_law_1170 : decode cL_law 1170 = .ok (.iaload, 1) := by decide +kernel
theorem dL_law_1171 : decode cL_law 1171 = .ok (.invokevirtual 163, 3) := by decide +kernel
theorem dL_law_1174 : decode cL_law 1174 = .ok (.if_icmp .eq 118, 3) := by decide +kernel
theorem dL_law_1177 : decode cL_law 1177 = .ok (.iconst 0, 1) := by decide +kernel
theorem dL_law_1178 : decode cL_law 1178 = .ok (.ireturn, 1) := by decide +kernel
theorem dL_law_1179 : decode cL_law 1179 = .ok (.aload_n 1, 1) := by decide +kernel
theorem dL_law_1180 : decode cL_law 1180 = .ok (.invokevirtual 164, 3) := by decide +kernel
theorem dL_law_1183 : decode cL_law 1183 = .ok (.aload_n 2, 1) := by decide +kernel
theorem dL_law_1184 : decode cL_law 1184 = .ok (.invokevirtual 167, 3) := by decide +kernel
theorem dL_law_1187 : decode cL_law 1187 = .ok (.if_icmp .eq 105, 3) := by decide +kernel
theorem dL_law_1190 : decode cL_law 1190 = .ok (.iconst 0, 1) := by decide +kernel
theorem dL_law_1191 : decode cL_law 1191 = .ok (.ireturn, 1) := by decide +kernel
theorem dL_law_1192 : decode cL_law 1192 = .ok (.aload_n 1, 1) := by decide +kernel
theorem dL_law_1193 : decode cL_law 1193 = .ok (.aload_n 0, 1) := by decide +kernel
theorem dL_law_1194 : decode cL_law 1194 = .ok (.iload 4, 2) := by decide +kernel
theorem dL_law_1196 : decode cL_law 1196 = .ok (.iconst 1, 1) := by decide +kernel
theorem dL_law_1197 : decode cL_law 1197 = .ok (.iadd, 1) := by decide +kernel
theorem dL_law_1198 : decode cL_law 1198 = .ok (.iaload, 1) := by decide +kernel
theorem dL_law_1199 : decode cL_law 1199 = .ok (.invokevirtual 168, 3) := by decide +kernel
theorem dL_law_1202 : decode cL_law 1202 = .ok (.aload_n 2, 1) := by decide +kernel
theorem dL_law_1203 : decode cL_law 1203 = .ok (.aload_n 0, 1) := by decide +kernel
theorem dL_law_1204 : decode cL_law 1204 = .ok (.iload 4, 2) := by decide +kernel
theorem dL_law_1206 : decode cL_law 1206 = .ok (.iconst 1, 1) := by decide +kernel
theorem dL_law_1207 : decode cL_law 1207 = .ok (.iadd, 1) := by decide +kernel
theorem dL_law_1208 : decode cL_law 1208 = .ok (.iaload, 1) := by decide +kernel
theorem dL_law_1209 : decode cL_law 1209 = .ok (.invokevirtual 171, 3) := by decide +kernel
theorem dL_law_1212 : decode cL_law 1212 = .ok (.if_icmp .eq 80, 3) := by decide +kernel
theorem dL_law_1215 : decode cL_law 1215 = .ok (.iconst 0, 1) := by decide +kernel
theorem dL_law_1216 : decode cL_law 1216 = .ok (.ireturn, 1) := by decide +kernel
theorem dL_law_1217 : decode cL_law 1217 = .ok (.aload_n 1, 1) := by decide +kernel
theorem dL_law_1218 : decode cL_law 1218 = .ok (.aload_n 0, 1) := by decide +kernel
theorem dL_law_1219 : decode cL_law 1219 = .ok (.iload 4, 2) := by decide +kernel
theorem dL_law_1221 : decode cL_law 1221 = .ok (.iconst 1, 1) := by decide +kernel
theorem dL_law_1222 : decode cL_law 1222 = .ok (.iadd, 1) := by decide +kernel
theorem dL_law_1223 : decode cL_law 1223 = .ok (.iaload, 1) := by decide +kernel
theorem dL_law_1224 : decode cL_law 1224 = .ok (.invokevirtual 172, 3) := by decide +kernel
theorem dL_law_1227 : decode cL_law 1227 = .ok (.aload_n 2, 1) := by decide +kernel
theorem dL_law_1228 : decode cL_law 1228 = .ok (.aload_n 0, 1) := by decide +kernel
theorem dL_law_1229 : decode cL_law 1229 = .ok (.iload 4, 2) := by decide +kernel
theorem dL_law_1231 : decode cL_law 1231 = .ok (.iconst 1, 1) := by decide +kernel
theorem dL_law_1232 : decode cL_law 1232 = .ok (.iadd, 1) := by decide +kernel
theorem dL_law_1233 : decode cL_law 1233 = .ok (.iaload, 1) := by decide +kernel
theorem dL_law_1234 : decode cL_law 1234 = .ok (.invokevirtual 175, 3) := by decide +kernel
theorem dL_law_1237 : decode cL_law 1237 = .ok (.if_icmp .eq 55, 3) := by decide +kernel
theorem dL_law_1240 : decode cL_law 1240 = .ok (.iconst 0, 1) := by decide +kernel
theorem dL_law_1241 : decode cL_law 1241 = .ok (.ireturn, 1) := by decide +kernel
theorem dL_law_1242 : decode cL_law 1242 = .ok (.aload_n 1, 1) := by decide +kernel
theorem dL_law_1243 : decode cL_law 1243 = .ok (.aload_n 0, 1) := by decide +kernel
theorem dL_law_1244 : decode cL_law 1244 = .ok (.iload 4, 2) := by decide +kernel
theorem dL_law_1246 : decode cL_law 1246 = .ok (.iconst 1, 1) := by decide +kernel
theorem dL_law_1247 : decode cL_law 1247 = .ok (.iadd, 1) := by decide +kernel
theorem dL_law_1248 : decode cL_law 1248 = .ok (.iaload, 1) := by decide +kernel
theorem dL_law_1249 : decode cL_law 1249 = .ok (.invokevirtual 176, 3) := by decide +kernel
theorem dL_law_1252 : decode cL_law 1252 = .ok (.aload_n 2, 1) := by decide +kernel
theorem dL_law_1253 : decode cL_law 1253 = .ok (.aload_n 0, 1) := by decide +kernel
theorem dL_law_1254 : decode cL_law 1254 = .ok (.iload 4, 2) := by decide +kernel
theorem dL_law_1256 : decode cL_law 1256 = .ok (.iconst 1, 1) := by decide +kernel
theorem dL_law_1257 : decode cL_law 1257 = .ok (.iadd, 1) := by decide +kernel
theorem dL_law_1258 : decode cL_law 1258 = .ok (.iaload, 1) := by decide +kernel
theorem dL_law_1259 : decode cL_law 1259 = .ok (.invokevirtual 179, 3) := by decide +kernel
theorem dL_law_1262 : decode cL_law 1262 = .ok (.if_icmp .eq 30, 3) := by decide +kernel
theorem dL_law_1265 : decode cL_law 1265 = .ok (.iconst 0, 1) := by decide +kernel
theorem dL_law_1266 : decode cL_law 1266 = .ok (.ireturn, 1) := by decide +kernel
theorem dL_law_1267 : decode cL_law 1267 = .ok (.aload_n 1, 1) := by decide +kernel
theorem dL_law_1268 : decode cL_law 1268 = .ok (.aload_n 0, 1) := by decide +kernel
theorem dL_law_1269 : decode cL_law 1269 = .ok (.iload 4, 2) := by decide +kernel
theorem dL_law_1271 : decode cL_law 1271 = .ok (.iconst 1, 1) := by decide +kernel
theorem dL_law_1272 : decode cL_law 1272 = .ok (.iadd, 1) := by decide +kernel
theorem dL_law_1273 : decode cL_law 1273 = .ok (.iaload, 1) := by decide +kernel
theorem dL_law_1274 : decode cL_law 1274 = .ok (.invokevirtual 180, 3) := by decide +kernel
theorem dL_law_1277 : decode cL_law 1277 = .ok (.aload_n 2, 1) := by decide +kernel
theorem dL_law_1278 : decode cL_law 1278 = .ok (.aload_n 0, 1) := by decide +kernel
theorem dL_law_1279 : decode cL_law 1279 = .ok (.iload 4, 2) := by decide +kernel
theorem dL_law_1281 : decode cL_law 1281 = .ok (.iconst 1, 1) := by decide +kernel
theorem dL_law_1282 : decode cL_law 1282 = .ok (.iadd, 1) := by decide +kernel
theorem dL_law_1283 : decode cL_law 1283 = .ok (.iaload, 1) := by decide +kernel
theorem dL_law_1284 : decode cL_law 1284 = .ok (.invokevirtual 183, 3) := by decide +kernel
theorem dL_law_1287 : decode cL_law 1287 = .ok (.if_icmp .eq 5, 3) := by decide +kernel
theorem dL_law_1290 : decode cL_law 1290 = .ok (.iconst 0, 1) := by decide +kernel
theorem dL_law_1291 : decode cL_law 1291 = .ok (.ireturn, 1) := by decide +kernel
theorem dL_law_1292 : decode cL_law 1292 = .ok (.iinc 4 6, 3) := by decide +kernel
theorem dL_law_1295 : decode cL_law 1295 = .ok (.goto (-1272), 3) := by decide +kernel
theorem dL_law_1298 : decode cL_law 1298 = .ok (.iconst 1, 1) := by decide +kernel
theorem dL_law_1299 : decode cL_law 1299 = .ok (.ireturn, 1) := by decide +kernel
