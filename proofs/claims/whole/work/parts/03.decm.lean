theorem dX12_thrown_0 : decode cX12_thrown 0 = .ok (.aload_n 0, 1) := by decide +kernel
theorem dX12_thrown_1 : decode cX12_thrown 1 = .ok (.getfield 1, 3) := by decide +kernel
theorem dX12_thrown_4 : decode cX12_thrown 4 = .ok (.ireturn, 1) := by decide +kernel
theorem dX12_throwsIf_0 : decode cX12_throwsIf 0 = .ok (.aload_n 0, 1) := by decide +kernel
theorem dX12_throwsIf_1 : decode cX12_throwsIf 1 = .ok (.iload_n 1, 1) := by decide +kernel
theorem dX12_throwsIf_2 : decode cX12_throwsIf 2 = .ok (.ifCond .eq 7, 3) := by decide +kernel
theorem dX12_throwsIf_5 : decode cX12_throwsIf 5 = .ok (.iconst 1, 1) := by decide +kernel
theorem dX12_throwsIf_6 : decode cX12_throwsIf 6 = .ok (.goto 4, 3) := by decide +kernel
theorem dX12_throwsIf_9 : decode cX12_throwsIf 9 = .ok (.iconst 0, 1) := by decide +kernel
theorem dX12_throwsIf_10 : decode cX12_throwsIf 10 = .ok (.putfield 1, 3) := by decide +kernel
theorem dX12_throwsIf_13 : decode cX12_throwsIf 13 = .ok (.iload_n 1, 1) := by decide +kernel
theorem dX12_throwsIf_14 : decode cX12_throwsIf 14 = .ok (.ireturn, 1) := by decide +kernel
theorem dX12_feed_0 : decode cX12_feed 0 = .ok (.aload_n 0, 1) := by decide +kernel
theorem dX12_feed_1 : decode cX12_feed 1 = .ok (.iconst 0, 1) := by decide +kernel
theorem dX12_feed_2 : decode cX12_feed 2 = .ok (.putfield 1, 3) := by decide +kernel
theorem dX12_feed_5 : decode cX12_feed 5 = .ok (.aload_n 0, 1) := by decide +kernel
theorem dX12_feed_6 : decode cX12_feed 6 = .ok (.getfield 7, 3) := by decide +kernel
theorem dX12_feed_9 : decode cX12_feed 9 = .ok (.bipush 20, 2) := by decide +kernel
theorem dX12_feed_11 : decode cX12_feed 11 = .ok (.iadd, 1) := by decide +kernel
theorem dX12_feed_12 : decode cX12_feed 12 = .ok (.sipush 940, 3) := by decide +kernel
theorem dX12_feed_15 : decode cX12_feed 15 = .ok (.if_icmp .le 5, 3) := by decide +kernel
theorem dX12_feed_18 : decode cX12_feed 18 = .ok (.iconst (-1), 1) := by decide +kernel
theorem dX12_feed_19 : decode cX12_feed 19 = .ok (.ireturn, 1) := by decide +kernel
theorem dX12_feed_20 : decode cX12_feed 20 = .ok (.aload_n 0, 1) := by decide +kernel
theorem dX12_feed_21 : decode cX12_feed 21 = .ok (.iload_n 1, 1) := by decide +kernel
theorem dX12_feed_22 : decode cX12_feed 22 = .ok (.invokevirtual 10, 3) := by decide +kernel
theorem dX12_feed_25 : decode cX12_feed 25 = .ok (.aload_n 0, 1) := by decide +kernel
theorem dX12_feed_26 : decode cX12_feed 26 = .ok (.iload_n 2, 1) := by decide +kernel
theorem dX12_feed_27 : decode cX12_feed 27 = .ok (.invokevirtual 10, 3) := by decide +kernel
theorem dX12_feed_30 : decode cX12_feed 30 = .ok (.aload_n 0, 1) := by decide +kernel
theorem dX12_feed_31 : decode cX12_feed 31 = .ok (.iload_n 3, 1) := by decide +kernel
theorem dX12_feed_32 : decode cX12_feed 32 = .ok (.invokevirtual 10, 3) := by decide +kernel
theorem dX12_feed_35 : decode cX12_feed 35 = .ok (.aload_n 0, 1) := by decide +kernel
theorem dX12_feed_36 : decode cX12_feed 36 = .ok (.iload 4, 2) := by decide +kernel
theorem dX12_feed_38 : decode cX12_feed 38 = .ok (.invokevirtual 10, 3) := by decide +kernel
theorem dX12_feed_41 : decode cX12_feed 41 = .ok (.aload_n 0, 1) := by decide +kernel
theorem dX12_feed_42 : decode cX12_feed 42 = .ok (.iload 5, 2) := by decide +kernel
theorem dX12_feed_44 : decode cX12_feed 44 = .ok (.invokevirtual 10, 3) := by decide +kernel
theorem dX12_feed_47 : decode cX12_feed 47 = .ok (.aload_n 0, 1) := by decide +kernel
theorem dX12_feed_48 : decode cX12_feed 48 = .ok (.getfield 7, 3) := by decide +kernel
theorem dX12_feed_51 : decode cX12_feed 51 = .ok (.ireturn, 1) := by decide +kernel
theorem dX12_four_0 : decode cX12_four 0 = .ok (.bipush 24, 2) := by decide +kernel
theorem dX12_four_2 : decode cX12_four 2 = .ok (.istore_n 2, 1) := by decide +kernel
theorem dX12_four_3 : decode cX12_four 3 = .ok (.iload_n 2, 1) := by decide +kernel
theorem dX12_four_4 : decode cX12_four 4 = .ok (.ifCond .lt 32, 3) := by decide +kernel
theorem dX12_four_7 : decode cX12_four 7 = .ok (.aload_n 0, 1) := by decide +kernel
theorem dX12_four_8 : decode cX12_four 8 = .ok (.getfield 14, 3) := by decide +kernel
theorem dX12_four_11 : decode cX12_four 11 = .ok (.aload_n 0, 1) := by decide +kernel
theorem dX12_four_12 : decode cX12_four 12 = .ok (.getfield 7, 3) := by decide +kernel
theorem dX12_four_15 : decode cX12_four 15 = .ok (.iload_n 1, 1) := by decide +kernel
theorem dX12_four_16 : decode cX12_four 16 = .ok (.iload_n 2, 1) := by decide +kernel
theorem dX12_four_17 : decode cX12_four 17 = .ok (.ishr, 1) := by decide +kernel
theorem dX12_four_18 : decode cX12_four 18 = .ok (.i2b, 1) := by decide +kernel
theorem dX12_four_19 : decode cX12_four 19 = .ok (.bastore, 1) := by decide +kernel
theorem dX12_four_20 : decode cX12_four 20 = .ok (.aload_n 0, 1) := by decide +kernel
theorem dX12_four_21 : decode cX12_four 21 = .ok (.dup, 1) := by decide +kernel
theorem dX12_four_22 : decode cX12_four 22 = .ok (.getfield 7, 3) := by decide +kernel
theorem dX12_four_25 : decode cX12_four 25 = .ok (.iconst 1, 1) := by decide +kernel
theorem dX12_four_26 : decode cX12_four 26 = .ok (.iadd, 1) := by decide +kernel
theorem dX12_four_27 : decode cX12_four 27 = .ok (.putfield 7, 3) := by decide +kernel
theorem dX12_four_30 : decode cX12_four 30 = .ok (.iinc 2 (-8), 3) := by decide +kernel
theorem dX12_four_33 : decode cX12_four 33 = .ok (.goto (-30), 3) := by decide +kernel
theorem dX12_four_36 : decode cX12_four 36 = .ok (.return_, 1) := by decide +kernel
theorem dX12_end_0 : decode cX12_end 0 = .ok (.aload_n 0, 1) := by decide +kernel
theorem dX12_end_1 : decode cX12_end 1 = .ok (.iconst 0, 1) := by decide +kernel
theorem dX12_end_2 : decode cX12_end 2 = .ok (.putfield 1, 3) := by decide +kernel
theorem dX12_end_5 : decode cX12_end 5 = .ok (.iload_n 1, 1) := by decide +kernel
theorem dX12_end_6 : decode cX12_end 6 = .ok (.ifCond .lt 11, 3) := by decide +kernel
theorem dX12_end_9 : decode cX12_end 9 = .ok (.iload_n 1, 1) := by decide +kernel
theorem dX12_end_10 : decode cX12_end 10 = .ok (.aload_n 0, 1) := by decide +kernel
theorem dX12_end_11 : decode cX12_end 11 = .ok (.getfield 7, 3) := by decide +kernel
theorem dX12_end_14 : decode cX12_end 14 = .ok (.if_icmp .le 5, 3) := by decide +kernel
theorem dX12_end_17 : decode cX12_end 17 = .ok (.iconst 0, 1) := by decide +kernel
theorem dX12_end_18 : decode cX12_end 18 = .ok (.ireturn, 1) := by decide +kernel
theorem dX12_end_19 : decode cX12_end 19 = .ok (.aload_n 0, 1) := by decide +kernel
theorem dX12_end_20 : decode cX12_end 20 = .ok (.iload_n 1, 1) := by decide +kernel
theorem dX12_end_21 : decode cX12_end 21 = .ok (.putfield 7, 3) := by decide +kernel
theorem dX12_end_24 : decode cX12_end 24 = .ok (.iconst 1, 1) := by decide +kernel
theorem dX12_end_25 : decode cX12_end 25 = .ok (.ireturn, 1) := by decide +kernel
theorem dX12_taken_0 : decode cX12_taken 0 = .ok (.aload_n 0, 1) := by decide +kernel
theorem dX12_taken_1 : decode cX12_taken 1 = .ok (.aload_n 0, 1) := by decide +kernel
theorem dX12_taken_2 : decode cX12_taken 2 = .ok (.getfield 7, 3) := by decide +kernel
theorem dX12_taken_5 : decode cX12_taken 5 = .ok (.putfield 18, 3) := by decide +kernel
theorem dX12_taken_8 : decode cX12_taken 8 = .ok (.aload_n 0, 1) := by decide +kernel
theorem dX12_taken_9 : decode cX12_taken 9 = .ok (.iconst 0, 1) := by decide +kernel
theorem dX12_taken_10 : decode cX12_taken 10 = .ok (.putfield 7, 3) := by decide +kernel
theorem dX12_taken_13 : decode cX12_taken 13 = .ok (.aload_n 0, 1) := by decide +kernel
theorem dX12_taken_14 : decode cX12_taken 14 = .ok (.iconst 0, 1) := by decide +kernel
theorem dX12_taken_15 : decode cX12_taken 15 = .ok (.putfield 21, 3) := by decide +kernel
theorem dX12_taken_18 : decode cX12_taken 18 = .ok (.aload_n 0, 1) := by decide +kernel
theorem dX12_taken_19 : decode cX12_taken 19 = .ok (.iload_n 1, 1) := by decide +kernel
theorem dX12_taken_20 : decode cX12_taken 20 = .ok (.putfield 24, 3) := by decide +kernel
theorem dX12_taken_23 : decode cX12_taken 23 = .ok (.return_, 1) := by decide +kernel
theorem dX12_isIn_0 : decode cX12_isIn 0 = .ok (.iload_n 0, 1) := by decide +kernel
theorem dX12_isIn_1 : decode cX12_isIn 1 = .ok (.iload_n 1, 1) := by decide +kernel
theorem dX12_isIn_2 : decode cX12_isIn 2 = .ok (.if_icmp .lt 12, 3) := by decide +kernel
theorem dX12_isIn_5 : decode cX12_isIn 5 = .ok (.iload_n 0, 1) := by decide +kernel
theorem dX12_isIn_6 : decode cX12_isIn 6 = .ok (.iload_n 2, 1) := by decide +kernel
theorem dX12_isIn_7 : decode cX12_isIn 7 = .ok (.if_icmp .gt 7, 3) := by decide +kernel
theorem dX12_isIn_10 : decode cX12_isIn 10 = .ok (.iconst 1, 1) := by decide +kernel
theorem dX12_isIn_11 : decode cX12_isIn 11 = .ok (.goto 4, 3) := by decide +kernel
theorem dX12_isIn_14 : decode cX12_isIn 14 = .ok (.iconst 0, 1) := by decide +kernel
theorem dX12_isIn_15 : decode cX12_isIn 15 = .ok (.ireturn, 1) := by decide +kernel
theorem dX12_bitOf_0 : decode cX12_bitOf 0 = .ok (.iload_n 0, 1) := by decide +kernel
theorem dX12_bitOf_1 : decode cX12_bitOf 1 = .ok (.iload_n 1, 1) := by decide +kernel
theorem dX12_bitOf_2 : decode cX12_bitOf 2 = .ok (.ishr, 1) := by decide +kernel
theorem dX12_bitOf_3 : decode cX12_bitOf 3 = .ok (.iconst 1, 1) := by decide +kernel
theorem dX12_bitOf_4 : decode cX12_bitOf 4 = .ok (.iand, 1) := by decide +kernel
theorem dX12_bitOf_5 : decode cX12_bitOf 5 = .ok (.iconst 1, 1) := by decide +kernel
theorem dX12_bitOf_6 : decode cX12_bitOf 6 = .ok (.if_icmp .ne 7, 3) := by decide +kernel
theorem dX12_bitOf_9 : decode cX12_bitOf 9 = .ok (.iconst 1, 1) := by decide +kernel
theorem dX12_bitOf_10 : decode cX12_bitOf 10 = .ok (.goto 4, 3) := by decide +kernel
theorem dX12_bitOf_13 : decode cX12_bitOf 13 = .ok (.iconst 0, 1) := by decide +kernel
theorem dX12_bitOf_14 : decode cX12_bitOf 14 = .ok (.ireturn, 1) := by decide +kernel
theorem dX12_greater_0 : decode cX12_greater 0 = .ok (.iload_n 0, 1) := by decide +kernel
theorem dX12_greater_1 : decode cX12_greater 1 = .ok (.iload_n 1, 1) := by decide +kernel
theorem dX12_greater_2 : decode cX12_greater 2 = .ok (.if_icmp .le 7, 3) := by decide +kernel
theorem dX12_greater_5 : decode cX12_greater 5 = .ok (.iload_n 0, 1) := by decide +kernel
theorem dX12_greater_6 : decode cX12_greater 6 = .ok (.goto 4, 3) := by decide +kernel
theorem dX12_greater_9 : decode cX12_greater 9 = .ok (.iload_n 1, 1) := by decide +kernel
theorem dX12_greater_10 : decode cX12_greater 10 = .ok (.ireturn, 1) := by decide +kernel
theorem dX12_bits_0 : decode cX12_bits 0 = .ok (.iconst 0, 1) := by decide +kernel
theorem dX12_bits_1 : decode cX12_bits 1 = .ok (.istore_n 1, 1) := by decide +kernel
theorem dX12_bits_2 : decode cX12_bits 2 = .ok (.iload_n 0, 1) := by decide +kernel
theorem dX12_bits_3 : decode cX12_bits 3 = .ok (.istore_n 2, 1) := by decide +kernel
theorem dX12_bits_4 : decode cX12_bits 4 = .ok (.iload_n 2, 1) := by decide +kernel
theorem dX12_bits_5 : decode cX12_bits 5 = .ok (.ifCond .eq 15, 3) := by decide +kernel
theorem dX12_bits_8 : decode cX12_bits 8 = .ok (.iinc 1 1, 3) := by decide +kernel
theorem dX12_bits_11 : decode cX12_bits 11 = .ok (.iload_n 2, 1) := by decide +kernel
theorem dX12_bits_12 : decode cX12_bits 12 = .ok (.iload_n 2, 1) := by decide +kernel
theorem dX12_bits_13 : decode cX12_bits 13 = .ok (.iconst 1, 1) := by decide +kernel
theorem dX12_bits_14 : decode cX12_bits 14 = .ok (.isub, 1) := by decide +kernel
theorem dX12_bits_15 : decode cX12_bits 15 = .ok (.iand, 1) := by decide +kernel
theorem dX12_bits_16 : decode cX12_bits 16 = .ok (.istore_n 2, 1) := by decide +kernel
theorem dX12_bits_17 : decode cX12_bits 17 = .ok (.goto (-13), 3) := by decide +kernel
theorem dX12_bits_20 : decode cX12_bits 20 = .ok (.iload_n 1, 1) := by decide +kernel
theorem dX12_bits_21 : decode cX12_bits 21 = .ok (.ireturn, 1) := by decide +kernel
theorem dX12_octet_0 : decode cX12_octet 0 = .ok (.aload_n 0, 1) := by decide +kernel
theorem dX12_octet_1 : decode cX12_octet 1 = .ok (.getfield 14, 3) := by decide +kernel
theorem dX12_octet_4 : decode cX12_octet 4 = .ok (.iload_n 1, 1) := by decide +kernel
theorem dX12_octet_5 : decode cX12_octet 5 = .ok (.baload, 1) := by decide +kernel
theorem dX12_octet_6 : decode cX12_octet 6 = .ok (.sipush 255, 3) := by decide +kernel
theorem dX12_octet_9 : decode cX12_octet 9 = .ok (.iand, 1) := by decide +kernel
theorem dX12_octet_10 : decode cX12_octet 10 = .ok (.ireturn, 1) := by decide +kernel
theorem dX12_init_0 : decode cX12_init 0 = .ok (.aload_n 0, 1) := by decide +kernel
theorem dX12_init_1 : decode cX12_init 1 = .ok (.invokespecial 27, 3) := by decide +kernel
theorem dX12_init_4 : decode cX12_init 4 = .ok (.aload_n 0, 1) := by decide +kernel
theorem dX12_init_5 : decode cX12_init 5 = .ok (.sipush 940, 3) := by decide +kernel
theorem dX12_init_8 : decode cX12_init 8 = .ok (.newarray .byte, 2) := by decide +kernel
theorem dX12_init_10 : decode cX12_init 10 = .ok (.putfield 14, 3) := by decide +kernel
theorem dX12_init_13 : decode cX12_init 13 = .ok (.aload_n 0, 1) := by decide +kernel
theorem dX12_init_14 : decode cX12_init 14 = .ok (.sipush 342, 3) := by decide +kernel
theorem dX12_init_17 : decode cX12_init 17 = .ok (.newarray .int, 2) := by decide +kernel
theorem dX12_init_19 : decode cX12_init 19 = .ok (.putfield 33, 3) := by decide +kernel
theorem dX12_init_22 : decode cX12_init 22 = .ok (.aload_n 0, 1) := by decide +kernel
theorem dX12_init_23 : decode cX12_init 23 = .ok (.bipush 69, 2) := by decide +kernel
theorem dX12_init_25 : decode cX12_init 25 = .ok (.newarray .int, 2) := by decide +kernel
theorem dX12_init_27 : decode cX12_init 27 = .ok (.putfield 37, 3) := by decide +kernel
theorem dX12_init_30 : decode cX12_init 30 = .ok (.aload_n 0, 1) := by decide +kernel
theorem dX12_init_31 : decode cX12_init 31 = .ok (.sipush 135, 3) := by decide +kernel
theorem dX12_init_34 : decode cX12_init 34 = .ok (.newarray .int, 2) := by decide +kernel
theorem dX12_init_36 : decode cX12_init 36 = .ok (.putfield 40, 3) := by decide +kernel
theorem dX12_init_39 : decode cX12_init 39 = .ok (.aload_n 0, 1) := by decide +kernel
theorem dX12_init_40 : decode cX12_init 40 = .ok (.bipush 28, 2) := by decide +kernel
theorem dX12_init_42 : decode cX12_init 42 = .ok (.newarray .long, 2) := by decide +kernel
theorem dX12_init_44 : decode cX12_init 44 = .ok (.putfield 43, 3) := by decide +kernel
theorem dX12_init_47 : decode cX12_init 47 = .ok (.aload_n 0, 1) := by decide +kernel
theorem dX12_init_48 : decode cX12_init 48 = .ok (.bipush 29, 2) := by decide +kernel
theorem dX12_init_50 : decode cX12_init 50 = .ok (.newarray .long, 2) := by decide +kernel
theorem dX12_init_52 : decode cX12_init 52 = .ok (.putfield 47, 3) := by decide +kernel
theorem dX12_init_55 : decode cX12_init 55 = .ok (.aload_n 0, 1) := by decide +kernel
theorem dX12_init_56 : decode cX12_init 56 = .ok (.sipush 736, 3) := by decide +kernel
theorem dX12_init_59 : decode cX12_init 59 = .ok (.newarray .int, 2) := by decide +kernel
theorem dX12_init_61 : decode cX12_init 61 = .ok (.putfield 50, 3) := by decide +kernel
theorem dX12_init_64 : decode cX12_init 64 = .ok (.aload_n 0, 1) := by decide +kernel
theorem dX12_init_65 : decode cX12_init 65 = .ok (.bipush 92, 2) := by decide +kernel
theorem dX12_init_67 : decode cX12_init 67 = .ok (.newarray .int, 2) := by decide +kernel
theorem dX12_init_69 : decode cX12_init 69 = .ok (.putfield 53, 3) := by decide +kernel
theorem dX12_init_72 : decode cX12_init 72 = .ok (.aload_n 0, 1) := by decide +kernel
theorem dX12_init_73 : decode cX12_init 73 = .ok (.sipush 256, 3) := by decide +kernel
theorem dX12_init_76 : decode cX12_init 76 = .ok (.newarray .boolean, 2) := by decide +kernel
theorem dX12_init_78 : decode cX12_init 78 = .ok (.putfield 56, 3) := by decide +kernel
theorem dX12_init_81 : decode cX12_init 81 = .ok (.aload_n 0, 1) := by decide +kernel
theorem dX12_init_82 : decode cX12_init 82 = .ok (.bipush 8, 2) := by decide +kernel
theorem dX12_init_84 : decode cX12_init 84 = .ok (.newarray .int, 2) := by decide +kernel
theorem dX12_init_86 : decode cX12_init 86 = .ok (.putfield 60, 3) := by decide +kernel
theorem dX12_init_89 : decode cX12_init 89 = .ok (.aload_n 0, 1) := by decide +kernel
theorem dX12_init_90 : decode cX12_init 90 = .ok (.bipush 8, 2) := by decide +kernel
theorem dX12_init_92 : decode cX12_init 92 = .ok (.newarray .int, 2) := by decide +kernel
theorem dX12_init_94 : decode cX12_init 94 = .ok (.putfield 63, 3) := by decide +kernel
theorem dX12_init_97 : decode cX12_init 97 = .ok (.aload_n 0, 1) := by decide +kernel
theorem dX12_init_98 : decode cX12_init 98 = .ok (.iconst (-1), 1) := by decide +kernel
theorem dX12_init_99 : decode cX12_init 99 = .ok (.putfield 66, 3) := by decide +kernel
theorem dX12_init_102 : decode cX12_init 102 = .ok (.aload_n 0, 1) := by decide +kernel
theorem dX12_init_103 : decode cX12_init 103 = .ok (.bipush 40, 2) := by decide +kernel
theorem dX12_init_105 : decode cX12_init 105 = .ok (.newarray .byte, 2) := by decide +kernel
theorem dX12_init_107 : decode cX12_init 107 = .ok (.putfield 69, 3) := by decide +kernel
theorem dX12_init_110 : decode cX12_init 110 = .ok (.aload_n 0, 1) := by decide +kernel
theorem dX12_init_111 : decode cX12_init 111 = .ok (.iconst 4, 1) := by decide +kernel
theorem dX12_init_112 : decode cX12_init 112 = .ok (.newarray .int, 2) := by decide +kernel
theorem dX12_init_114 : decode cX12_init 114 = .ok (.putfield 72, 3) := by decide +kernel
theorem dX12_init_117 : decode cX12_init 117 = .ok (.aload_n 0, 1) := by decide +kernel
theorem dX12_init_118 : decode cX12_init 118 = .ok (.bipush 45, 2) := by decide +kernel
theorem dX12_init_120 : decode cX12_init 120 = .ok (.newarray .int, 2) := by decide +kernel
theorem dX12_init_122 : decode cX12_init 122 = .ok (.putfield 75, 3) := by decide +kernel
theorem dX12_init_125 : decode cX12_init 125 = .ok (.aload_n 0, 1) := by decide +kernel
theorem dX12_init_126 : decode cX12_init 126 = .ok (.bipush 45, 2) := by decide +kernel
theorem dX12_init_128 : decode cX12_init 128 = .ok (.newarray .boolean, 2) := by decide +kernel
theorem dX12_init_130 : decode cX12_init 130 = .ok (.putfield 78, 3) := by decide +kernel
theorem dX12_init_133 : decode cX12_init 133 = .ok (.aload_n 0, 1) := by decide +kernel
theorem dX12_init_134 : decode cX12_init 134 = .ok (.sipush 684, 3) := by decide +kernel
theorem dX12_init_137 : decode cX12_init 137 = .ok (.newarray .int, 2) := by decide +kernel
theorem dX12_init_139 : decode cX12_init 139 = .ok (.putfield 81, 3) := by decide +kernel
theorem dX12_init_142 : decode cX12_init 142 = .ok (.aload_n 0, 1) := by decide +kernel
theorem dX12_init_143 : decode cX12_init 143 = .ok (.bipush 28, 2) := by decide +kernel
theorem dX12_init_145 : decode cX12_init 145 = .ok (.newarray .long, 2) := by decide +kernel
theorem dX12_init_147 : decode cX12_init 147 = .ok (.putfield 84, 3) := by decide +kernel
theorem dX12_init_150 : decode cX12_init 150 = .ok (.aload_n 0, 1) := by decide +kernel
theorem dX12_init_151 : decode cX12_init 151 = .ok (.iconst 2, 1) := by decide +kernel
theorem dX12_init_152 : decode cX12_init 152 = .ok (.newarray .boolean, 2) := by decide +kernel
theorem dX12_init_154 : decode cX12_init 154 = .ok (.putfield 87, 3) := by decide +kernel
theorem dX12_init_157 : decode cX12_init 157 = .ok (.aload_n 0, 1) := by decide +kernel
theorem dX12_init_158 : decode cX12_init 158 = .ok (.getfield 47, 3) := by decide +kernel
theorem dX12_init_161 : decode cX12_init 161 = .ok (.iconst 0, 1) := by decide +kernel
theorem dX12_init_162 : decode cX12_init 162 = .ok (.ldc2_w 90, 3) := by decide +kernel
theorem dX12_init_165 : decode cX12_init 165 = .ok (.lastore, 1) := by decide +kernel
theorem dX12_init_166 : decode cX12_init 166 = .ok (.aload_n 0, 1) := by decide +kernel
theorem dX12_init_167 : decode cX12_init 167 = .ok (.getfield 47, 3) := by decide +kernel
theorem dX12_init_170 : decode cX12_init 170 = .ok (.iconst 1, 1) := by decide +kernel
theorem dX12_init_171 : decode cX12_init 171 = .ok (.ldc2_w 92, 3) := by decide +kernel
theorem dX12_init_174 : decode cX12_init 174 = .ok (.lastore, 1) := by decide +kernel
theorem dX12_init_175 : decode cX12_init 175 = .ok (.aload_n 0, 1) := by decide +kernel
theorem dX12_init_176 : decode cX12_init 176 = .ok (.getfield 47, 3) := by decide +kernel
theorem dX12_init_179 : decode cX12_init 179 = .ok (.iconst 2, 1) := by decide +kernel
theorem dX12_init_180 : decode cX12_init 180 = .ok (.ldc2_w 94, 3) := by decide +kernel
theorem dX12_init_183 : decode cX12_init 183 = .ok (.lastore, 1) := by decide +kernel
theorem dX12_init_184 : decode cX12_init 184 = .ok (.aload_n 0, 1) := by decide +kernel
theorem dX12_init_185 : decode cX12_init 185 = .ok (.getfield 47, 3) := by decide +kernel
theorem dX12_init_188 : decode cX12_init 188 = .ok (.iconst 3, 1) := by decide +kernel
theorem dX12_init_189 : decode cX12_init 189 = .ok (.ldc2_w 96, 3) := by decide +kernel
theorem dX12_init_192 : decode cX12_init 192 = .ok (.lastore, 1) := by decide +kernel
theorem dX12_init_193 : decode cX12_init 193 = .ok (.aload_n 0, 1) := by decide +kernel
theorem dX12_init_194 : decode cX12_init 194 = .ok (.getfield 47, 3) := by decide +kernel
theorem dX12_init_197 : decode cX12_init 197 = .ok (.iconst 4, 1) := by decide +kernel
theorem dX12_init_198 : decode cX12_init 198 = .ok (.ldc2_w 98, 3) := by decide +kernel
theorem dX12_init_201 : decode cX12_init 201 = .ok (.lastore, 1) := by decide +kernel
theorem dX12_init_202 : decode cX12_init 202 = .ok (.aload_n 0, 1) := by decide +kernel
theorem dX12_init_203 : decode cX12_init 203 = .ok (.getfield 47, 3) := by decide +kernel
theorem dX12_init_206 : decode cX12_init 206 = .ok (.iconst 5, 1) := by decide +kernel
theorem dX12_init_207 : decode cX12_init 207 = .ok (.ldc2_w 100, 3) := by decide +kernel
theorem dX12_init_210 : decode cX12_init 210 = .ok (.lastore, 1) := by decide +kernel
theorem dX12_init_211 : decode cX12_init 211 = .ok (.aload_n 0, 1) := by decide +kernel
theorem dX12_init_212 : decode cX12_init 212 = .ok (.getfield 47, 3) := by decide +kernel
theorem dX12_init_215 : decode cX12_init 215 = .ok (.bipush 6, 2) := by decide +kernel
theorem dX12_init_217 : decode cX12_init 217 = .ok (.ldc2_w 102, 3) := by decide +kernel
theorem dX12_init_220 : decode cX12_init 220 = .ok (.lastore, 1) := by decide +kernel
theorem dX12_init_221 : decode cX12_init 221 = .ok (.aload_n 0, 1) := by decide +kernel
theorem dX12_init_222 : decode cX12_init 222 = .ok (.getfield 47, 3) := by decide +kernel
theorem dX12_init_225 : decode cX12_init 225 = .ok (.bipush 7, 2) := by decide +kernel
theorem dX12_init_227 : decode cX12_init 227 = .ok (.ldc2_w 104, 3) := by decide +kernel
theorem dX12_init_230 : decode cX12_init 230 = .ok (.lastore, 1) := by decide +kernel
theorem dX12_init_231 : decode cX12_init 231 = .ok (.aload_n 0, 1) := by decide +kernel
theorem dX12_init_232 : decode cX12_init 232 = .ok (.getfield 47, 3) := by decide +kernel
theorem dX12_init_235 : decode cX12_init 235 = .ok (.bipush 8, 2) := by decide +kernel
theorem dX12_init_237 : decode cX12_init 237 = .ok (.ldc2_w 106, 3) := by decide +kernel
theorem dX12_init_240 : decode cX12_init 240 = .ok (.lastore, 1) := by decide +kernel
theorem dX12_init_241 : decode cX12_init 241 = .ok (.aload_n 0, 1) := by decide +kernel
theorem dX12_init_242 : decode cX12_init 242 = .ok (.getfield 47, 3) := by decide +kernel
theorem dX12_init_245 : decode cX12_init 245 = .ok (.bipush 9, 2) := by decide +kernel
theorem dX12_init_247 : decode cX12_init 247 = .ok (.ldc2_w 108, 3) := by decide +kernel
theorem dX12_init_250 : decode cX12_init 250 = .ok (.lastore, 1) := by decide +kernel
theorem dX12_init_251 : decode cX12_init 251 = .ok (.aload_n 0, 1) := by decide +kernel
theorem dX12_init_252 : decode cX12_init 252 = .ok (.getfield 47, 3) := by decide +kernel
theorem dX12_init_255 : decode cX12_init 255 = .ok (.bipush 10, 2) := by decide +kernel
theorem dX12_init_257 : decode cX12_init 257 = .ok (.ldc2_w 110, 3) := by decide +kernel
theorem dX12_init_260 : decode cX12_init 260 = .ok (.lastore, 1) := by decide +kernel
theorem dX12_init_261 : decode cX12_init 261 = .ok (.aload_n 0, 1) := by decide +kernel
theorem dX12_init_262 : decode cX12_init 262 = .ok (.getfield 47, 3) := by decide +kernel
theorem dX12_init_265 : decode cX12_init 265 = .ok (.bipush 11, 2) := by decide +kernel
theorem dX12_init_267 : decode cX12_init 267 = .ok (.ldc2_w 112, 3) := by decide +kernel
theorem dX12_init_270 : decode cX12_init 270 = .ok (.lastore, 1) := by decide +kernel
theorem dX12_init_271 : decode cX12_init 271 = .ok (.aload_n 0, 1) := by decide +kernel
theorem dX12_init_272 : decode cX12_init 272 = .ok (.getfield 47, 3) := by decide +kernel
theorem dX12_init_275 : decode cX12_init 275 = .ok (.bipush 12, 2) := by decide +kernel
theorem dX12_init_277 : decode cX12_init 277 = .ok (.ldc2_w 114, 3) := by decide +kernel
theorem dX12_init_280 : decode cX12_init 280 = .ok (.lastore, 1) := by decide +kernel
theorem dX12_init_281 : decode cX12_init 281 = .ok (.aload_n 0, 1) := by decide +kernel
theorem dX12_init_282 : decode cX12_init 282 = .ok (.getfield 47, 3) := by decide +kernel
theorem dX12_init_285 : decode cX12_init 285 = .ok (.bipush 13, 2) := by decide +kernel
theorem dX12_init_287 : decode cX12_init 287 = .ok (.ldc2_w 116, 3) := by decide +kernel
theorem dX12_init_290 : decode cX12_init 290 = .ok (.lastore, 1) := by decide +kernel
theorem dX12_init_291 : decode cX12_init 291 = .ok (.aload_n 0, 1) := by decide +kernel
theorem dX12_init_292 : decode cX12_init 292 = .ok (.getfield 47, 3) := by decide +kernel
theorem dX12_init_295 : decode cX12_init 295 = .ok (.bipush 14, 2) := by decide +kernel
theorem dX12_init_297 : decode cX12_init 297 = .ok (.ldc2_w 118, 3) := by decide +kernel
theorem dX12_init_300 : decode cX12_init 300 = .ok (.lastore, 1) := by decide +kernel
theorem dX12_init_301 : decode cX12_init 301 = .ok (.aload_n 0, 1) := by decide +kernel
theorem dX12_init_302 : decode cX12_init 302 = .ok (.getfield 47, 3) := by decide +kernel
theorem dX12_init_305 : decode cX12_init 305 = .ok (.bipush 15, 2) := by decide +kernel
theorem dX12_init_307 : decode cX12_init 307 = .ok (.ldc2_w 120, 3) := by decide +kernel
theorem dX12_init_310 : decode cX12_init 310 = .ok (.lastore, 1) := by decide +kernel
theorem dX12_init_311 : decode cX12_init 311 = .ok (.aload_n 0, 1) := by decide +kernel
theorem dX12_init_312 : decode cX12_init 312 = .ok (.getfield 47, 3) := by decide +kernel
theorem dX12_init_315 : decode cX12_init 315 = .ok (.bipush 16, 2) := by decide +kernel
theorem dX12_init_317 : decode cX12_init 317 = .ok (.ldc2_w 122, 3) := by decide +kernel
theorem dX12_init_320 : decode cX12_init 320 = .ok (.lastore, 1) := by decide +kernel
theorem dX12_init_321 : decode cX12_init 321 = .ok (.aload_n 0, 1) := by decide +kernel
theorem dX12_init_322 : decode cX12_init 322 = .ok (.getfield 47, 3) := by decide +kernel
theorem dX12_init_325 : decode cX12_init 325 = .ok (.bipush 17, 2) := by decide +kernel
theorem dX12_init_327 : decode cX12_init 327 = .ok (.ldc2_w 124, 3) := by decide +kernel
theorem dX12_init_330 : decode cX12_init 330 = .ok (.lastore, 1) := by decide +kernel
theorem dX12_init_331 : decode cX12_init 331 = .ok (.aload_n 0, 1) := by decide +kernel
theorem dX12_init_332 : decode cX12_init 332 = .ok (.getfield 47, 3) := by decide +kernel
theorem dX12_init_335 : decode cX12_init 335 = .ok (.bipush 18, 2) := by decide +kernel
theorem dX12_init_337 : decode cX12_init 337 = .ok (.ldc2_w 126, 3) := by decide +kernel
theorem dX12_init_340 : decode cX12_init 340 = .ok (.lastore, 1) := by decide +kernel
theorem dX12_init_341 : decode cX12_init 341 = .ok (.aload_n 0, 1) := by decide +kernel
theorem dX12_init_342 : decode cX12_init 342 = .ok (.getfield 47, 3) := by decide +kernel
theorem dX12_init_345 : decode cX12_init 345 = .ok (.bipush 19, 2) := by decide +kernel
theorem dX12_init_347 : decode cX12_init 347 = .ok (.ldc2_w 128, 3) := by decide +kernel
theorem dX12_init_350 : decode cX12_init 350 = .ok (.lastore, 1) := by decide +kernel
theorem dX12_init_351 : decode cX12_init 351 = .ok (.aload_n 0, 1) := by decide +kernel
theorem dX12_init_352 : decode cX12_init 352 = .ok (.getfield 47, 3) := by decide +kernel
theorem dX12_init_355 : decode cX12_init 355 = .ok (.bipush 20, 2) := by decide +kernel
theorem dX12_init_357 : decode cX12_init 357 = .ok (.ldc2_w 130, 3) := by decide +kernel
theorem dX12_init_360 : decode cX12_init 360 = .ok (.lastore, 1) := by decide +kernel
theorem dX12_init_361 : decode cX12_init 361 = .ok (.aload_n 0, 1) := by decide +kernel
theorem dX12_init_362 : decode cX12_init 362 = .ok (.getfield 47, 3) := by decide +kernel
theorem dX12_init_365 : decode cX12_init 365 = .ok (.bipush 21, 2) := by decide +kernel
theorem dX12_init_367 : decode cX12_init 367 = .ok (.ldc2_w 132, 3) := by decide +kernel
theorem dX12_init_370 : decode cX12_init 370 = .ok (.lastore, 1) := by decide +kernel
theorem dX12_init_371 : decode cX12_init 371 = .ok (.aload_n 0, 1) := by decide +kernel
theorem dX12_init_372 : decode cX12_init 372 = .ok (.getfield 47, 3) := by decide +kernel
theorem dX12_init_375 : decode cX12_init 375 = .ok (.bipush 22, 2) := by decide +kernel
theorem dX12_init_377 : decode cX12_init 377 = .ok (.ldc2_w 134, 3) := by decide +kernel
theorem dX12_init_380 : decode cX12_init 380 = .ok (.lastore, 1) := by decide +kernel
theorem dX12_init_381 : decode cX12_init 381 = .ok (.aload_n 0, 1) := by decide +kernel
theorem dX12_init_382 : decode cX12_init 382 = .ok (.getfield 47, 3) := by decide +kernel
theorem dX12_init_385 : decode cX12_init 385 = .ok (.bipush 23, 2) := by decide +kernel
theorem dX12_init_387 : decode cX12_init 387 = .ok (.ldc2_w 136, 3) := by decide +kernel
theorem dX12_init_390 : decode cX12_init 390 = .ok (.lastore, 1) := by decide +kernel
theorem dX12_init_391 : decode cX12_init 391 = .ok (.aload_n 0, 1) := by decide +kernel
theorem dX12_init_392 : decode cX12_init 392 = .ok (.getfield 47, 3) := by decide +kernel
theorem dX12_init_395 : decode cX12_init 395 = .ok (.bipush 24, 2) := by decide +kernel
theorem dX12_init_397 : decode cX12_init 397 = .ok (.ldc2_w 138, 3) := by decide +kernel
theorem dX12_init_400 : decode cX12_init 400 = .ok (.lastore, 1) := by decide +kernel
theorem dX12_init_401 : decode cX12_init 401 = .ok (.aload_n 0, 1) := by decide +kernel
theorem dX12_init_402 : decode cX12_init 402 = .ok (.getfield 47, 3) := by decide +kernel
theorem dX12_init_405 : decode cX12_init 405 = .ok (.bipush 25, 2) := by decide +kernel
theorem dX12_init_407 : decode cX12_init 407 = .ok (.ldc2_w 140, 3) := by decide +kernel
theorem dX12_init_410 : decode cX12_init 410 = .ok (.lastore, 1) := by decide +kernel
theorem dX12_init_411 : decode cX12_init 411 = .ok (.aload_n 0, 1) := by decide +kernel
theorem dX12_init_412 : decode cX12_init 412 = .ok (.getfield 47, 3) := by decide +kernel
theorem dX12_init_415 : decode cX12_init 415 = .ok (.bipush 26, 2) := by decide +kernel
theorem dX12_init_417 : decode cX12_init 417 = .ok (.ldc2_w 142, 3) := by decide +kernel
theorem dX12_init_420 : decode cX12_init 420 = .ok (.lastore, 1) := by decide +kernel
theorem dX12_init_421 : decode cX12_init 421 = .ok (.aload_n 0, 1) := by decide +kernel
theorem dX12_init_422 : decode cX12_init 422 = .ok (.getfield 47, 3) := by decide +kernel
theorem dX12_init_425 : decode cX12_init 425 = .ok (.bipush 27, 2) := by decide +kernel
theorem dX12_init_427 : decode cX12_init 427 = .ok (.ldc2_w 144, 3) := by decide +kernel
theorem dX12_init_430 : decode cX12_init 430 = .ok (.lastore, 1) := by decide +kernel
theorem dX12_init_431 : decode cX12_init 431 = .ok (.aload_n 0, 1) := by decide +kernel
theorem dX12_init_432 : decode cX12_init 432 = .ok (.getfield 47, 3) := by decide +kernel
theorem dX12_init_435 : decode cX12_init 435 = .ok (.bipush 28, 2) := by decide +kernel
theorem dX12_init_437 : decode cX12_init 437 = .ok (.ldc2_w 146, 3) := by decide +kernel
theorem dX12_init_440 : decode cX12_init 440 = .ok (.lastore, 1) := by decide +kernel
theorem dX12_init_441 : decode cX12_init 441 = .ok (.aload_n 0, 1) := by decide +kernel
theorem dX12_init_442 : decode cX12_init 442 = .ok (.invokevirtual 148, 3) := by decide +kernel
theorem dX12_init_445 : decode cX12_init 445 = .ok (.iconst 0, 1) := by decide +kernel
theorem dX12_init_446 : decode cX12_init 446 = .ok (.istore_n 1, 1) := by decide +kernel
theorem dX12_init_447 : decode cX12_init 447 = .ok (.iload_n 1, 1) := by decide +kernel
theorem dX12_init_448 : decode cX12_init 448 = .ok (.bipush 69, 2) := by decide +kernel
theorem dX12_init_450 : decode cX12_init 450 = .ok (.if_icmp .ge 21, 3) := by decide +kernel
theorem dX12_init_453 : decode cX12_init 453 = .ok (.aload_n 0, 1) := by decide +kernel
theorem dX12_init_454 : decode cX12_init 454 = .ok (.getfield 33, 3) := by decide +kernel
theorem dX12_init_457 : decode cX12_init 457 = .ok (.iload_n 1, 1) := by decide +kernel
theorem dX12_init_458 : decode cX12_init 458 = .ok (.aload_n 0, 1) := by decide +kernel
theorem dX12_init_459 : decode cX12_init 459 = .ok (.getfield 37, 3) := by decide +kernel
theorem dX12_init_462 : decode cX12_init 462 = .ok (.iload_n 1, 1) := by decide +kernel
theorem dX12_init_463 : decode cX12_init 463 = .ok (.iaload, 1) := by decide +kernel
theorem dX12_init_464 : decode cX12_init 464 = .ok (.iastore, 1) := by decide +kernel
theorem dX12_init_465 : decode cX12_init 465 = .ok (.iinc 1 1, 3) := by decide +kernel
theorem dX12_init_468 : decode cX12_init 468 = .ok (.goto (-21), 3) := by decide +kernel
theorem dX12_init_471 : decode cX12_init 471 = .ok (.return_, 1) := by decide +kernel
theorem dX12_clears_0 : decode cX12_clears 0 = .ok (.iconst 0, 1) := by decide +kernel
theorem dX12_clears_1 : decode cX12_clears 1 = .ok (.istore_n 1, 1) := by decide +kernel
theorem dX12_clears_2 : decode cX12_clears 2 = .ok (.iload_n 1, 1) := by decide +kernel
theorem dX12_clears_3 : decode cX12_clears 3 = .ok (.bipush 69, 2) := by decide +kernel
theorem dX12_clears_5 : decode cX12_clears 5 = .ok (.if_icmp .ge 16, 3) := by decide +kernel
theorem dX12_clears_8 : decode cX12_clears 8 = .ok (.aload_n 0, 1) := by decide +kernel
theorem dX12_clears_9 : decode cX12_clears 9 = .ok (.getfield 37, 3) := by decide +kernel
theorem dX12_clears_12 : decode cX12_clears 12 = .ok (.iload_n 1, 1) := by decide +kernel
theorem dX12_clears_13 : decode cX12_clears 13 = .ok (.iconst 0, 1) := by decide +kernel
theorem dX12_clears_14 : decode cX12_clears 14 = .ok (.iastore, 1) := by decide +kernel
theorem dX12_clears_15 : decode cX12_clears 15 = .ok (.iinc 1 1, 3) := by decide +kernel
theorem dX12_clears_18 : decode cX12_clears 18 = .ok (.goto (-16), 3) := by decide +kernel
theorem dX12_clears_21 : decode cX12_clears 21 = .ok (.aload_n 0, 1) := by decide +kernel
theorem dX12_clears_22 : decode cX12_clears 22 = .ok (.getfield 37, 3) := by decide +kernel
theorem dX12_clears_25 : decode cX12_clears 25 = .ok (.iconst 2, 1) := by decide +kernel
theorem dX12_clears_26 : decode cX12_clears 26 = .ok (.bipush 10, 2) := by decide +kernel
theorem dX12_clears_28 : decode cX12_clears 28 = .ok (.iastore, 1) := by decide +kernel
theorem dX12_clears_29 : decode cX12_clears 29 = .ok (.aload_n 0, 1) := by decide +kernel
theorem dX12_clears_30 : decode cX12_clears 30 = .ok (.getfield 37, 3) := by decide +kernel
theorem dX12_clears_33 : decode cX12_clears 33 = .ok (.iconst 3, 1) := by decide +kernel
theorem dX12_clears_34 : decode cX12_clears 34 = .ok (.iconst 2, 1) := by decide +kernel
theorem dX12_clears_35 : decode cX12_clears 35 = .ok (.iastore, 1) := by decide +kernel
theorem dX12_clears_36 : decode cX12_clears 36 = .ok (.aload_n 0, 1) := by decide +kernel
theorem dX12_clears_37 : decode cX12_clears 37 = .ok (.getfield 37, 3) := by decide +kernel
theorem dX12_clears_40 : decode cX12_clears 40 = .ok (.iconst 4, 1) := by decide +kernel
theorem dX12_clears_41 : decode cX12_clears 41 = .ok (.iconst 3, 1) := by decide +kernel
theorem dX12_clears_42 : decode cX12_clears 42 = .ok (.iastore, 1) := by decide +kernel
theorem dX12_clears_43 : decode cX12_clears 43 = .ok (.return_, 1) := by decide +kernel
theorem dX12_peek_0 : decode cX12_peek 0 = .ok (.aload_n 0, 1) := by decide +kernel
theorem dX12_peek_1 : decode cX12_peek 1 = .ok (.getfield 21, 3) := by decide +kernel
theorem dX12_peek_4 : decode cX12_peek 4 = .ok (.aload_n 0, 1) := by decide +kernel
theorem dX12_peek_5 : decode cX12_peek 5 = .ok (.getfield 18, 3) := by decide +kernel
theorem dX12_peek_8 : decode cX12_peek 8 = .ok (.if_icmp .ge 19, 3) := by decide +kernel
theorem dX12_peek_11 : decode cX12_peek 11 = .ok (.aload_n 0, 1) := by decide +kernel
theorem dX12_peek_12 : decode cX12_peek 12 = .ok (.getfield 14, 3) := by decide +kernel
theorem dX12_peek_15 : decode cX12_peek 15 = .ok (.aload_n 0, 1) := by decide +kernel
theorem dX12_peek_16 : decode cX12_peek 16 = .ok (.getfield 21, 3) := by decide +kernel
theorem dX12_peek_19 : decode cX12_peek 19 = .ok (.baload, 1) := by decide +kernel
theorem dX12_peek_20 : decode cX12_peek 20 = .ok (.sipush 255, 3) := by decide +kernel
theorem dX12_peek_23 : decode cX12_peek 23 = .ok (.iand, 1) := by decide +kernel
theorem dX12_peek_24 : decode cX12_peek 24 = .ok (.goto 4, 3) := by decide +kernel
theorem dX12_peek_27 : decode cX12_peek 27 = .ok (.iconst (-1), 1) := by decide +kernel
theorem dX12_peek_28 : decode cX12_peek 28 = .ok (.ireturn, 1) := by decide +kernel
theorem dX12_isSmall_0 : decode cX12_isSmall 0 = .ok (.iload_n 0, 1) := by decide +kernel
theorem dX12_isSmall_1 : decode cX12_isSmall 1 = .ok (.bipush 97, 2) := by decide +kernel
theorem dX12_isSmall_3 : decode cX12_isSmall 3 = .ok (.if_icmp .lt 13, 3) := by decide +kernel
theorem dX12_isSmall_6 : decode cX12_isSmall 6 = .ok (.iload_n 0, 1) := by decide +kernel
theorem dX12_isSmall_7 : decode cX12_isSmall 7 = .ok (.bipush 122, 2) := by decide +kernel
theorem dX12_isSmall_9 : decode cX12_isSmall 9 = .ok (.if_icmp .gt 7, 3) := by decide +kernel
theorem dX12_isSmall_12 : decode cX12_isSmall 12 = .ok (.iconst 1, 1) := by decide +kernel
theorem dX12_isSmall_13 : decode cX12_isSmall 13 = .ok (.goto 4, 3) := by decide +kernel
theorem dX12_isSmall_16 : decode cX12_isSmall 16 = .ok (.iconst 0, 1) := by decide +kernel
theorem dX12_isSmall_17 : decode cX12_isSmall 17 = .ok (.ireturn, 1) := by decide +kernel
theorem dX12_isDigit_0 : decode cX12_isDigit 0 = .ok (.iload_n 0, 1) := by decide +kernel
theorem dX12_isDigit_1 : decode cX12_isDigit 1 = .ok (.bipush 48, 2) := by decide +kernel
theorem dX12_isDigit_3 : decode cX12_isDigit 3 = .ok (.if_icmp .lt 13, 3) := by decide +kernel
theorem dX12_isDigit_6 : decode cX12_isDigit 6 = .ok (.iload_n 0, 1) := by decide +kernel
theorem dX12_isDigit_7 : decode cX12_isDigit 7 = .ok (.bipush 57, 2) := by decide +kernel
theorem dX12_isDigit_9 : decode cX12_isDigit 9 = .ok (.if_icmp .gt 7, 3) := by decide +kernel
theorem dX12_isDigit_12 : decode cX12_isDigit 12 = .ok (.iconst 1, 1) := by decide +kernel
theorem dX12_isDigit_13 : decode cX12_isDigit 13 = .ok (.goto 4, 3) := by decide +kernel
theorem dX12_isDigit_16 : decode cX12_isDigit 16 = .ok (.iconst 0, 1) := by decide +kernel
theorem dX12_isDigit_17 : decode cX12_isDigit 17 = .ok (.ireturn, 1) := by decide +kernel
theorem dX12_next_0 : decode cX12_next 0 = .ok (.aload_n 0, 1) := by decide +kernel
theorem dX12_next_1 : decode cX12_next 1 = .ok (.invokevirtual 151, 3) := by decide +kernel
theorem dX12_next_4 : decode cX12_next 4 = .ok (.bipush 32, 2) := by decide +kernel
theorem dX12_next_6 : decode cX12_next 6 = .ok (.if_icmp .eq 12, 3) := by decide +kernel
theorem dX12_next_9 : decode cX12_next 9 = .ok (.aload_n 0, 1) := by decide +kernel
theorem dX12_next_10 : decode cX12_next 10 = .ok (.invokevirtual 151, 3) := by decide +kernel
theorem dX12_next_13 : decode cX12_next 13 = .ok (.bipush 10, 2) := by decide +kernel
theorem dX12_next_15 : decode cX12_next 15 = .ok (.if_icmp .ne 16, 3) := by decide +kernel
theorem dX12_next_18 : decode cX12_next 18 = .ok (.aload_n 0, 1) := by decide +kernel
theorem dX12_next_19 : decode cX12_next 19 = .ok (.dup, 1) := by decide +kernel
theorem dX12_next_20 : decode cX12_next 20 = .ok (.getfield 21, 3) := by decide +kernel
theorem dX12_next_23 : decode cX12_next 23 = .ok (.iconst 1, 1) := by decide +kernel
theorem dX12_next_24 : decode cX12_next 24 = .ok (.iadd, 1) := by decide +kernel
theorem dX12_next_25 : decode cX12_next 25 = .ok (.putfield 21, 3) := by decide +kernel
theorem dX12_next_28 : decode cX12_next 28 = .ok (.goto (-28), 3) := by decide +kernel
theorem dX12_next_31 : decode cX12_next 31 = .ok (.aload_n 0, 1) := by decide +kernel
theorem dX12_next_32 : decode cX12_next 32 = .ok (.aload_n 0, 1) := by decide +kernel
theorem dX12_next_33 : decode cX12_next 33 = .ok (.getfield 21, 3) := by decide +kernel
theorem dX12_next_36 : decode cX12_next 36 = .ok (.putfield 155, 3) := by decide +kernel
theorem dX12_next_39 : decode cX12_next 39 = .ok (.aload_n 0, 1) := by decide +kernel
theorem dX12_next_40 : decode cX12_next 40 = .ok (.iconst 0, 1) := by decide +kernel
theorem dX12_next_41 : decode cX12_next 41 = .ok (.putfield 158, 3) := by decide +kernel
theorem dX12_next_44 : decode cX12_next 44 = .ok (.aload_n 0, 1) := by decide +kernel
theorem dX12_next_45 : decode cX12_next 45 = .ok (.getfield 18, 3) := by decide +kernel
theorem dX12_next_48 : decode cX12_next 48 = .ok (.aload_n 0, 1) := by decide +kernel
theorem dX12_next_49 : decode cX12_next 49 = .ok (.getfield 24, 3) := by decide +kernel
theorem dX12_next_52 : decode cX12_next 52 = .ok (.if_icmp .le 28, 3) := by decide +kernel
theorem dX12_next_55 : decode cX12_next 55 = .ok (.aload_n 0, 1) := by decide +kernel
theorem dX12_next_56 : decode cX12_next 56 = .ok (.getfield 21, 3) := by decide +kernel
theorem dX12_next_59 : decode cX12_next 59 = .ok (.aload_n 0, 1) := by decide +kernel
theorem dX12_next_60 : decode cX12_next 60 = .ok (.getfield 24, 3) := by decide +kernel
theorem dX12_next_63 : decode cX12_next 63 = .ok (.if_icmp .lt 17, 3) := by decide +kernel
theorem dX12_next_66 : decode cX12_next 66 = .ok (.aload_n 0, 1) := by decide +kernel
theorem dX12_next_67 : decode cX12_next 67 = .ok (.aload_n 0, 1) := by decide +kernel
theorem dX12_next_68 : decode cX12_next 68 = .ok (.getfield 24, 3) := by decide +kernel
theorem dX12_next_71 : decode cX12_next 71 = .ok (.putfield 155, 3) := by decide +kernel
theorem dX12_next_74 : decode cX12_next 74 = .ok (.aload_n 0, 1) := by decide +kernel
theorem dX12_next_75 : decode cX12_next 75 = .ok (.iconst 4, 1) := by decide +kernel
theorem dX12_next_76 : decode cX12_next 76 = .ok (.putfield 161, 3) := by decide +kernel
theorem dX12_next_79 : decode cX12_next 79 = .ok (.return_, 1) := by decide +kernel
theorem dX12_next_80 : decode cX12_next 80 = .ok (.aload_n 0, 1) := by decide +kernel
theorem dX12_next_81 : decode cX12_next 81 = .ok (.invokevirtual 151, 3) := by decide +kernel
theorem dX12_next_84 : decode cX12_next 84 = .ok (.istore_n 1, 1) := by decide +kernel
theorem dX12_next_85 : decode cX12_next 85 = .ok (.iload_n 1, 1) := by decide +kernel
theorem dX12_next_86 : decode cX12_next 86 = .ok (.ifCond .ge 9, 3) := by decide +kernel
theorem dX12_next_89 : decode cX12_next 89 = .ok (.aload_n 0, 1) := by decide +kernel
theorem dX12_next_90 : decode cX12_next 90 = .ok (.iconst 0, 1) := by decide +kernel
theorem dX12_next_91 : decode cX12_next 91 = .ok (.putfield 161, 3) := by decide +kernel
theorem dX12_next_94 : decode cX12_next 94 = .ok (.return_, 1) := by decide +kernel
theorem dX12_next_95 : decode cX12_next 95 = .ok (.iload_n 1, 1) := by decide +kernel
theorem dX12_next_96 : decode cX12_next 96 = .ok (.invokestatic 164, 3) := by decide +kernel
theorem dX12_next_99 : decode cX12_next 99 = .ok (.ifCond .ne 65, 3) := by decide +kernel
theorem dX12_next_102 : decode cX12_next 102 = .ok (.iload_n 1, 1) := by decide +kernel
theorem dX12_next_103 : decode cX12_next 103 = .ok (.invokestatic 168, 3) := by decide +kernel
theorem dX12_next_106 : decode cX12_next 106 = .ok (.ifCond .ne 58, 3) := by decide +kernel
theorem dX12_next_109 : decode cX12_next 109 = .ok (.aload_n 0, 1) := by decide +kernel
theorem dX12_next_110 : decode cX12_next 110 = .ok (.iload_n 1, 1) := by decide +kernel
theorem dX12_next_111 : decode cX12_next 111 = .ok (.bipush 59, 2) := by decide +kernel
theorem dX12_next_113 : decode cX12_next 113 = .ok (.if_icmp .eq 27, 3) := by decide +kernel
theorem dX12_next_116 : decode cX12_next 116 = .ok (.iload_n 1, 1) := by decide +kernel
theorem dX12_next_117 : decode cX12_next 117 = .ok (.bipush 40, 2) := by decide +kernel
theorem dX12_next_119 : decode cX12_next 119 = .ok (.if_icmp .eq 21, 3) := by decide +kernel
theorem dX12_next_122 : decode cX12_next 122 = .ok (.iload_n 1, 1) := by decide +kernel
theorem dX12_next_123 : decode cX12_next 123 = .ok (.bipush 41, 2) := by decide +kernel
theorem dX12_next_125 : decode cX12_next 125 = .ok (.if_icmp .eq 15, 3) := by decide +kernel
theorem dX12_next_128 : decode cX12_next 128 = .ok (.iload_n 1, 1) := by decide +kernel
theorem dX12_next_129 : decode cX12_next 129 = .ok (.bipush 60, 2) := by decide +kernel
theorem dX12_next_131 : decode cX12_next 131 = .ok (.if_icmp .lt 13, 3) := by decide +kernel
theorem dX12_next_134 : decode cX12_next 134 = .ok (.iload_n 1, 1) := by decide +kernel
theorem dX12_next_135 : decode cX12_next 135 = .ok (.bipush 62, 2) := by decide +kernel
theorem dX12_next_137 : decode cX12_next 137 = .ok (.if_icmp .gt 7, 3) := by decide +kernel
theorem dX12_next_140 : decode cX12_next 140 = .ok (.iconst 3, 1) := by decide +kernel
theorem dX12_next_141 : decode cX12_next 141 = .ok (.goto 4, 3) := by decide +kernel
theorem dX12_next_144 : decode cX12_next 144 = .ok (.iconst 4, 1) := by decide +kernel
theorem dX12_next_145 : decode cX12_next 145 = .ok (.putfield 161, 3) := by decide +kernel
theorem dX12_next_148 : decode cX12_next 148 = .ok (.aload_n 0, 1) := by decide +kernel
theorem dX12_next_149 : decode cX12_next 149 = .ok (.iload_n 1, 1) := by decide +kernel
theorem dX12_next_150 : decode cX12_next 150 = .ok (.putfield 171, 3) := by decide +kernel
theorem dX12_next_153 : decode cX12_next 153 = .ok (.aload_n 0, 1) := by decide +kernel
theorem dX12_next_154 : decode cX12_next 154 = .ok (.dup, 1) := by decide +kernel
theorem dX12_next_155 : decode cX12_next 155 = .ok (.getfield 21, 3) := by decide +kernel
theorem dX12_next_158 : decode cX12_next 158 = .ok (.iconst 1, 1) := by decide +kernel
theorem dX12_next_159 : decode cX12_next 159 = .ok (.iadd, 1) := by decide +kernel
theorem dX12_next_160 : decode cX12_next 160 = .ok (.putfield 21, 3) := by decide +kernel
theorem dX12_next_163 : decode cX12_next 163 = .ok (.return_, 1) := by decide +kernel
theorem dX12_next_164 : decode cX12_next 164 = .ok (.iload_n 1, 1) := by decide +kernel
theorem dX12_next_165 : decode cX12_next 165 = .ok (.invokestatic 164, 3) := by decide +kernel
theorem dX12_next_168 : decode cX12_next 168 = .ok (.istore_n 2, 1) := by decide +kernel
theorem dX12_next_169 : decode cX12_next 169 = .ok (.iconst 1, 1) := by decide +kernel
theorem dX12_next_170 : decode cX12_next 170 = .ok (.istore_n 3, 1) := by decide +kernel
theorem dX12_next_171 : decode cX12_next 171 = .ok (.aload_n 0, 1) := by decide +kernel
theorem dX12_next_172 : decode cX12_next 172 = .ok (.lconst 0, 1) := by decide +kernel
theorem dX12_next_173 : decode cX12_next 173 = .ok (.putfield 174, 3) := by decide +kernel
theorem dX12_next_176 : decode cX12_next 176 = .ok (.aload_n 0, 1) := by decide +kernel
theorem dX12_next_177 : decode cX12_next 177 = .ok (.iconst 0, 1) := by decide +kernel
theorem dX12_next_178 : decode cX12_next 178 = .ok (.putfield 171, 3) := by decide +kernel
theorem dX12_next_181 : decode cX12_next 181 = .ok (.aload_n 0, 1) := by decide +kernel
theorem dX12_next_182 : decode cX12_next 182 = .ok (.invokevirtual 151, 3) := by decide +kernel
theorem dX12_next_185 : decode cX12_next 185 = .ok (.invokestatic 164, 3) := by decide +kernel
theorem dX12_next_188 : decode cX12_next 188 = .ok (.ifCond .ne 13, 3) := by decide +kernel
theorem dX12_next_191 : decode cX12_next 191 = .ok (.aload_n 0, 1) := by decide +kernel
theorem dX12_next_192 : decode cX12_next 192 = .ok (.invokevirtual 151, 3) := by decide +kernel
theorem dX12_next_195 : decode cX12_next 195 = .ok (.invokestatic 168, 3) := by decide +kernel
theorem dX12_next_198 : decode cX12_next 198 = .ok (.ifCond .eq 100, 3) := by decide +kernel
theorem dX12_next_201 : decode cX12_next 201 = .ok (.iload_n 3, 1) := by decide +kernel
theorem dX12_next_202 : decode cX12_next 202 = .ok (.ifCond .eq 18, 3) := by decide +kernel
theorem dX12_next_205 : decode cX12_next 205 = .ok (.aload_n 0, 1) := by decide +kernel
theorem dX12_next_206 : decode cX12_next 206 = .ok (.invokevirtual 151, 3) := by decide +kernel
theorem dX12_next_209 : decode cX12_next 209 = .ok (.invokestatic 164, 3) := by decide +kernel
theorem dX12_next_212 : decode cX12_next 212 = .ok (.iload_n 2, 1) := by decide +kernel
theorem dX12_next_213 : decode cX12_next 213 = .ok (.if_icmp .ne 7, 3) := by decide +kernel
theorem dX12_next_216 : decode cX12_next 216 = .ok (.iconst 1, 1) := by decide +kernel
theorem dX12_next_217 : decode cX12_next 217 = .ok (.goto 4, 3) := by decide +kernel
theorem dX12_next_220 : decode cX12_next 220 = .ok (.iconst 0, 1) := by decide +kernel
theorem dX12_next_221 : decode cX12_next 221 = .ok (.istore_n 3, 1) := by decide +kernel
theorem dX12_next_222 : decode cX12_next 222 = .ok (.aload_n 0, 1) := by decide +kernel
theorem dX12_next_223 : decode cX12_next 223 = .ok (.getfield 158, 3) := by decide +kernel
theorem dX12_next_226 : decode cX12_next 226 = .ok (.bipush 8, 2) := by decide +kernel
theorem dX12_next_228 : decode cX12_next 228 = .ok (.if_icmp .ge 20, 3) := by decide +kernel
theorem dX12_next_231 : decode cX12_next 231 = .ok (.aload_n 0, 1) := by decide +kernel
theorem dX12_next_232 : decode cX12_next 232 = .ok (.aload_n 0, 1) := by decide +kernel
theorem dX12_next_233 : decode cX12_next 233 = .ok (.getfield 174, 3) := by decide +kernel
theorem dX12_next_236 : decode cX12_next 236 = .ok (.bipush 8, 2) := by decide +kernel
theorem dX12_next_238 : decode cX12_next 238 = .ok (.lshl, 1) := by decide +kernel
theorem dX12_next_239 : decode cX12_next 239 = .ok (.aload_n 0, 1) := by decide +kernel
theorem dX12_next_240 : decode cX12_next 240 = .ok (.invokevirtual 151, 3) := by decide +kernel
theorem dX12_next_243 : decode cX12_next 243 = .ok (.i2l, 1) := by decide +kernel
theorem dX12_next_244 : decode cX12_next 244 = .ok (.lor, 1) := by decide +kernel
theorem dX12_next_245 : decode cX12_next 245 = .ok (.putfield 174, 3) := by decide +kernel
theorem dX12_next_248 : decode cX12_next 248 = .ok (.aload_n 0, 1) := by decide +kernel
theorem dX12_next_249 : decode cX12_next 249 = .ok (.getfield 158, 3) := by decide +kernel
theorem dX12_next_252 : decode cX12_next 252 = .ok (.iconst 3, 1) := by decide +kernel
theorem dX12_next_253 : decode cX12_next 253 = .ok (.if_icmp .ge 22, 3) := by decide +kernel
theorem dX12_next_256 : decode cX12_next 256 = .ok (.aload_n 0, 1) := by decide +kernel
theorem dX12_next_257 : decode cX12_next 257 = .ok (.bipush 10, 2) := by decide +kernel
theorem dX12_next_259 : decode cX12_next 259 = .ok (.aload_n 0, 1) := by decide +kernel
theorem dX12_next_260 : decode cX12_next 260 = .ok (.getfield 171, 3) := by decide +kernel
theorem dX12_next_263 : decode cX12_next 263 = .ok (.imul, 1) := by decide +kernel
theorem dX12_next_264 : decode cX12_next 264 = .ok (.aload_n 0, 1) := by decide +kernel
theorem dX12_next_265 : decode cX12_next 265 = .ok (.invokevirtual 151, 3) := by decide +kernel
theorem dX12_next_268 : decode cX12_next 268 = .ok (.iadd, 1) := by decide +kernel
theorem dX12_next_269 : decode cX12_next 269 = .ok (.bipush 48, 2) := by decide +kernel
theorem dX12_next_271 : decode cX12_next 271 = .ok (.isub, 1) := by decide +kernel
theorem dX12_next_272 : decode cX12_next 272 = .ok (.putfield 171, 3) := by decide +kernel
theorem dX12_next_275 : decode cX12_next 275 = .ok (.aload_n 0, 1) := by decide +kernel
theorem dX12_next_276 : decode cX12_next 276 = .ok (.dup, 1) := by decide +kernel
theorem dX12_next_277 : decode cX12_next 277 = .ok (.getfield 158, 3) := by decide +kernel
theorem dX12_next_280 : decode cX12_next 280 = .ok (.iconst 1, 1) := by decide +kernel
theorem dX12_next_281 : decode cX12_next 281 = .ok (.iadd, 1) := by decide +kernel
theorem dX12_next_282 : decode cX12_next 282 = .ok (.putfield 158, 3) := by decide +kernel
theorem dX12_next_285 : decode cX12_next 285 = .ok (.aload_n 0, 1) := by decide +kernel
theorem dX12_next_286 : decode cX12_next 286 = .ok (.dup, 1) := by decide +kernel
theorem dX12_next_287 : decode cX12_next 287 = .ok (.getfield 21, 3) := by decide +kernel
theorem dX12_next_290 : decode cX12_next 290 = .ok (.iconst 1, 1) := by decide +kernel
theorem dX12_next_291 : decode cX12_next 291 = .ok (.iadd, 1) := by decide +kernel
theorem dX12_next_292 : decode cX12_next 292 = .ok (.putfield 21, 3) := by decide +kernel
theorem dX12_next_295 : decode cX12_next 295 = .ok (.goto (-114), 3) := by decide +kernel
theorem dX12_next_298 : decode cX12_next 298 = .ok (.aload_n 0, 1) := by decide +kernel
theorem dX12_next_299 : decode cX12_next 299 = .ok (.iload_n 3, 1) := by decide +kernel
theorem dX12_next_300 : decode cX12_next 300 = .ok (.ifCond .eq 20, 3) := by decide +kernel
theorem dX12_next_303 : decode cX12_next 303 = .ok (.aload_n 0, 1) := by decide +kernel
theorem dX12_next_304 : decode cX12_next 304 = .ok (.getfield 158, 3) := by decide +kernel
theorem dX12_next_307 : decode cX12_next 307 = .ok (.iload_n 2, 1) := by decide +kernel
theorem dX12_next_308 : decode cX12_next 308 = .ok (.ifCond .eq 8, 3) := by decide +kernel
theorem dX12_next_311 : decode cX12_next 311 = .ok (.bipush 8, 2) := by decide +kernel
theorem dX12_next_313 : decode cX12_next 313 = .ok (.goto 4, 3) := by decide +kernel
theorem dX12_next_316 : decode cX12_next 316 = .ok (.iconst 3, 1) := by decide +kernel
theorem dX12_next_317 : decode cX12_next 317 = .ok (.if_icmp .le 7, 3) := by decide +kernel
theorem dX12_next_320 : decode cX12_next 320 = .ok (.iconst 4, 1) := by decide +kernel
theorem dX12_next_321 : decode cX12_next 321 = .ok (.goto 12, 3) := by decide +kernel
theorem dX12_next_324 : decode cX12_next 324 = .ok (.iload_n 2, 1) := by decide +kernel
theorem dX12_next_325 : decode cX12_next 325 = .ok (.ifCond .eq 7, 3) := by decide +kernel
theorem dX12_next_328 : decode cX12_next 328 = .ok (.iconst 1, 1) := by decide +kernel
theorem dX12_next_329 : decode cX12_next 329 = .ok (.goto 4, 3) := by decide +kernel
theorem dX12_next_332 : decode cX12_next 332 = .ok (.iconst 2, 1) := by decide +kernel
theorem dX12_next_333 : decode cX12_next 333 = .ok (.putfield 161, 3) := by decide +kernel
theorem dX12_next_336 : decode cX12_next 336 = .ok (.return_, 1) := by decide +kernel
theorem dX12_bad_0 : decode cX12_bad 0 = .ok (.aload_n 0, 1) := by decide +kernel
theorem dX12_bad_1 : decode cX12_bad 1 = .ok (.iload_n 1, 1) := by decide +kernel
theorem dX12_bad_2 : decode cX12_bad 2 = .ok (.putfield 178, 3) := by decide +kernel
theorem dX12_bad_5 : decode cX12_bad 5 = .ok (.aload_n 0, 1) := by decide +kernel
theorem dX12_bad_6 : decode cX12_bad 6 = .ok (.aload_n 0, 1) := by decide +kernel
theorem dX12_bad_7 : decode cX12_bad 7 = .ok (.getfield 155, 3) := by decide +kernel
theorem dX12_bad_10 : decode cX12_bad 10 = .ok (.putfield 181, 3) := by decide +kernel
theorem dX12_bad_13 : decode cX12_bad 13 = .ok (.iconst 0, 1) := by decide +kernel
theorem dX12_bad_14 : decode cX12_bad 14 = .ok (.ireturn, 1) := by decide +kernel
theorem dX12_isWord_0 : decode cX12_isWord 0 = .ok (.aload_n 0, 1) := by decide +kernel
theorem dX12_isWord_1 : decode cX12_isWord 1 = .ok (.getfield 161, 3) := by decide +kernel
theorem dX12_isWord_4 : decode cX12_isWord 4 = .ok (.iconst 1, 1) := by decide +kernel
theorem dX12_isWord_5 : decode cX12_isWord 5 = .ok (.if_icmp .ne 16, 3) := by decide +kernel
theorem dX12_isWord_8 : decode cX12_isWord 8 = .ok (.aload_n 0, 1) := by decide +kernel
theorem dX12_isWord_9 : decode cX12_isWord 9 = .ok (.getfield 174, 3) := by decide +kernel
theorem dX12_isWord_12 : decode cX12_isWord 12 = .ok (.lload_n 1, 1) := by decide +kernel
theorem dX12_isWord_13 : decode cX12_isWord 13 = .ok (.lcmp, 1) := by decide +kernel
theorem dX12_isWord_14 : decode cX12_isWord 14 = .ok (.ifCond .ne 7, 3) := by decide +kernel
theorem dX12_isWord_17 : decode cX12_isWord 17 = .ok (.iconst 1, 1) := by decide +kernel
theorem dX12_isWord_18 : decode cX12_isWord 18 = .ok (.goto 4, 3) := by decide +kernel
theorem dX12_isWord_21 : decode cX12_isWord 21 = .ok (.iconst 0, 1) := by decide +kernel
theorem dX12_isWord_22 : decode cX12_isWord 22 = .ok (.ireturn, 1) := by decide +kernel
theorem dX12_isSign_0 : decode cX12_isSign 0 = .ok (.aload_n 0, 1) := by decide +kernel
theorem dX12_isSign_1 : decode cX12_isSign 1 = .ok (.getfield 161, 3) := by decide +kernel
theorem dX12_isSign_4 : decode cX12_isSign 4 = .ok (.iconst 3, 1) := by decide +kernel
theorem dX12_isSign_5 : decode cX12_isSign 5 = .ok (.if_icmp .ne 15, 3) := by decide +kernel
theorem dX12_isSign_8 : decode cX12_isSign 8 = .ok (.aload_n 0, 1) := by decide +kernel
theorem dX12_isSign_9 : decode cX12_isSign 9 = .ok (.getfield 171, 3) := by decide +kernel
theorem dX12_isSign_12 : decode cX12_isSign 12 = .ok (.iload_n 1, 1) := by decide +kernel
theorem dX12_isSign_13 : decode cX12_isSign 13 = .ok (.if_icmp .ne 7, 3) := by decide +kernel
theorem dX12_isSign_16 : decode cX12_isSign 16 = .ok (.iconst 1, 1) := by decide +kernel
theorem dX12_isSign_17 : decode cX12_isSign 17 = .ok (.goto 4, 3) := by decide +kernel
theorem dX12_isSign_20 : decode cX12_isSign 20 = .ok (.iconst 0, 1) := by decide +kernel
theorem dX12_isSign_21 : decode cX12_isSign 21 = .ok (.ireturn, 1) := by decide +kernel
theorem dX12_sign_0 : decode cX12_sign 0 = .ok (.aload_n 0, 1) := by decide +kernel
theorem dX12_sign_1 : decode cX12_sign 1 = .ok (.iload_n 1, 1) := by decide +kernel
theorem dX12_sign_2 : decode cX12_sign 2 = .ok (.invokevirtual 184, 3) := by decide +kernel
theorem dX12_sign_5 : decode cX12_sign 5 = .ok (.ifCond .ne 9, 3) := by decide +kernel
theorem dX12_sign_8 : decode cX12_sign 8 = .ok (.aload_n 0, 1) := by decide +kernel
theorem dX12_sign_9 : decode cX12_sign 9 = .ok (.iconst 1, 1) := by decide +kernel
theorem dX12_sign_10 : decode cX12_sign 10 = .ok (.invokevirtual 187, 3) := by decide +kernel
theorem dX12_sign_13 : decode cX12_sign 13 = .ok (.ireturn, 1) := by decide +kernel
theorem dX12_sign_14 : decode cX12_sign 14 = .ok (.aload_n 0, 1) := by decide +kernel
theorem dX12_sign_15 : decode cX12_sign 15 = .ok (.invokevirtual 190, 3) := by decide +kernel
theorem dX12_sign_18 : decode cX12_sign 18 = .ok (.iconst 1, 1) := by decide +kernel
theorem dX12_sign_19 : decode cX12_sign 19 = .ok (.ireturn, 1) := by decide +kernel
theorem dX12_isName_0 : decode cX12_isName 0 = .ok (.aload_n 0, 1) := by decide +kernel
theorem dX12_isName_1 : decode cX12_isName 1 = .ok (.getfield 161, 3) := by decide +kernel
theorem dX12_isName_4 : decode cX12_isName 4 = .ok (.iconst 1, 1) := by decide +kernel
theorem dX12_isName_5 : decode cX12_isName 5 = .ok (.if_icmp .ne 7, 3) := by decide +kernel
theorem dX12_isName_8 : decode cX12_isName 8 = .ok (.iconst 1, 1) := by decide +kernel
theorem dX12_isName_9 : decode cX12_isName 9 = .ok (.goto 4, 3) := by decide +kernel
theorem dX12_isName_12 : decode cX12_isName 12 = .ok (.iconst 0, 1) := by decide +kernel
theorem dX12_isName_13 : decode cX12_isName 13 = .ok (.istore_n 1, 1) := by decide +kernel
theorem dX12_isName_14 : decode cX12_isName 14 = .ok (.iconst 0, 1) := by decide +kernel
theorem dX12_isName_15 : decode cX12_isName 15 = .ok (.istore_n 2, 1) := by decide +kernel
theorem dX12_isName_16 : decode cX12_isName 16 = .ok (.iload_n 2, 1) := by decide +kernel
theorem dX12_isName_17 : decode cX12_isName 17 = .ok (.bipush 29, 2) := by decide +kernel
theorem dX12_isName_19 : decode cX12_isName 19 = .ok (.if_icmp .ge 33, 3) := by decide +kernel
theorem dX12_isName_22 : decode cX12_isName 22 = .ok (.iload_n 1, 1) := by decide +kernel
theorem dX12_isName_23 : decode cX12_isName 23 = .ok (.ifCond .eq 21, 3) := by decide +kernel
theorem dX12_isName_26 : decode cX12_isName 26 = .ok (.aload_n 0, 1) := by decide +kernel
theorem dX12_isName_27 : decode cX12_isName 27 = .ok (.getfield 174, 3) := by decide +kernel
theorem dX12_isName_30 : decode cX12_isName 30 = .ok (.aload_n 0, 1) := by decide +kernel
theorem dX12_isName_31 : decode cX12_isName 31 = .ok (.getfield 47, 3) := by decide +kernel
theorem dX12_isName_34 : decode cX12_isName 34 = .ok (.iload_n 2, 1) := by decide +kernel
theorem dX12_isName_35 : decode cX12_isName 35 = .ok (.laload, 1) := by decide +kernel
theorem dX12_isName_36 : decode cX12_isName 36 = .ok (.lcmp, 1) := by decide +kernel
theorem dX12_isName_37 : decode cX12_isName 37 = .ok (.ifCond .eq 7, 3) := by decide +kernel
theorem dX12_isName_40 : decode cX12_isName 40 = .ok (.iconst 1, 1) := by decide +kernel
theorem dX12_isName_41 : decode cX12_isName 41 = .ok (.goto 4, 3) := by decide +kernel
theorem dX12_isName_44 : decode cX12_isName 44 = .ok (.iconst 0, 1) := by decide +kernel
theorem dX12_isName_45 : decode cX12_isName 45 = .ok (.istore_n 1, 1) := by decide +kernel
theorem dX12_isName_46 : decode cX12_isName 46 = .ok (.iinc 2 1, 3) := by decide +kernel
theorem dX12_isName_49 : decode cX12_isName 49 = .ok (.goto (-33), 3) := by decide +kernel
theorem dX12_isName_52 : decode cX12_isName 52 = .ok (.iload_n 1, 1) := by decide +kernel
theorem dX12_isName_53 : decode cX12_isName 53 = .ok (.ireturn, 1) := by decide +kernel
theorem dX12_takes_0 : decode cX12_takes 0 = .ok (.aload_n 0, 1) := by decide +kernel
theorem dX12_takes_1 : decode cX12_takes 1 = .ok (.getfield 161, 3) := by decide +kernel
theorem dX12_takes_4 : decode cX12_takes 4 = .ok (.iconst 2, 1) := by decide +kernel
theorem dX12_takes_5 : decode cX12_takes 5 = .ok (.if_icmp .eq 9, 3) := by decide +kernel
theorem dX12_takes_8 : decode cX12_takes 8 = .ok (.aload_n 0, 1) := by decide +kernel
theorem dX12_takes_9 : decode cX12_takes 9 = .ok (.iconst 1, 1) := by decide +kernel
theorem dX12_takes_10 : decode cX12_takes 10 = .ok (.invokevirtual 187, 3) := by decide +kernel
theorem dX12_takes_13 : decode cX12_takes 13 = .ok (.ireturn, 1) := by decide +kernel
theorem dX12_takes_14 : decode cX12_takes 14 = .ok (.aload_n 0, 1) := by decide +kernel
theorem dX12_takes_15 : decode cX12_takes 15 = .ok (.getfield 171, 3) := by decide +kernel
theorem dX12_takes_18 : decode cX12_takes 18 = .ok (.iload_n 1, 1) := by decide +kernel
theorem dX12_takes_19 : decode cX12_takes 19 = .ok (.iload_n 2, 1) := by decide +kernel
theorem dX12_takes_20 : decode cX12_takes 20 = .ok (.invokestatic 193, 3) := by decide +kernel
theorem dX12_takes_23 : decode cX12_takes 23 = .ok (.ifCond .ne 9, 3) := by decide +kernel
theorem dX12_takes_26 : decode cX12_takes 26 = .ok (.aload_n 0, 1) := by decide +kernel
theorem dX12_takes_27 : decode cX12_takes 27 = .ok (.iconst 2, 1) := by decide +kernel
theorem dX12_takes_28 : decode cX12_takes 28 = .ok (.invokevirtual 187, 3) := by decide +kernel
theorem dX12_takes_31 : decode cX12_takes 31 = .ok (.ireturn, 1) := by decide +kernel
theorem dX12_takes_32 : decode cX12_takes 32 = .ok (.aload_n 0, 1) := by decide +kernel
theorem dX12_takes_33 : decode cX12_takes 33 = .ok (.aload_n 0, 1) := by decide +kernel
theorem dX12_takes_34 : decode cX12_takes 34 = .ok (.getfield 171, 3) := by decide +kernel
theorem dX12_takes_37 : decode cX12_takes 37 = .ok (.putfield 197, 3) := by decide +kernel
theorem dX12_takes_40 : decode cX12_takes 40 = .ok (.aload_n 0, 1) := by decide +kernel
theorem dX12_takes_41 : decode cX12_takes 41 = .ok (.invokevirtual 190, 3) := by decide +kernel
theorem dX12_takes_44 : decode cX12_takes 44 = .ok (.iconst 1, 1) := by decide +kernel
theorem dX12_takes_45 : decode cX12_takes 45 = .ok (.ireturn, 1) := by decide +kernel
theorem dX12_puts_0 : decode cX12_puts 0 = .ok (.aload_n 0, 1) := by decide +kernel
theorem dX12_puts_1 : decode cX12_puts 1 = .ok (.iload_n 2, 1) := by decide +kernel
theorem dX12_puts_2 : decode cX12_puts 2 = .ok (.iload_n 3, 1) := by decide +kernel
theorem dX12_puts_3 : decode cX12_puts 3 = .ok (.invokevirtual 200, 3) := by decide +kernel
theorem dX12_puts_6 : decode cX12_puts 6 = .ok (.ifCond .ne 5, 3) := by decide +kernel
theorem dX12_puts_9 : decode cX12_puts 9 = .ok (.iconst 0, 1) := by decide +kernel
theorem dX12_puts_10 : decode cX12_puts 10 = .ok (.ireturn, 1) := by decide +kernel
theorem dX12_puts_11 : decode cX12_puts 11 = .ok (.aload_n 0, 1) := by decide +kernel
theorem dX12_puts_12 : decode cX12_puts 12 = .ok (.getfield 37, 3) := by decide +kernel
theorem dX12_puts_15 : decode cX12_puts 15 = .ok (.iload_n 1, 1) := by decide +kernel
theorem dX12_puts_16 : decode cX12_puts 16 = .ok (.aload_n 0, 1) := by decide +kernel
theorem dX12_puts_17 : decode cX12_puts 17 = .ok (.getfield 197, 3) := by decide +kernel
theorem dX12_puts_20 : decode cX12_puts 20 = .ok (.iastore, 1) := by decide +kernel
theorem dX12_puts_21 : decode cX12_puts 21 = .ok (.iconst 1, 1) := by decide +kernel
theorem dX12_puts_22 : decode cX12_puts 22 = .ok (.ireturn, 1) := by decide +kernel
theorem dX12_seek_0 : decode cX12_seek 0 = .ok (.iconst 0, 1) := by decide +kernel
theorem dX12_seek_1 : decode cX12_seek 1 = .ok (.istore_n 3, 1) := by decide +kernel
theorem dX12_seek_2 : decode cX12_seek 2 = .ok (.iload_n 3, 1) := by decide +kernel
theorem dX12_seek_3 : decode cX12_seek 3 = .ok (.iload_n 2, 1) := by decide +kernel
theorem dX12_seek_4 : decode cX12_seek 4 = .ok (.if_icmp .ge 27, 3) := by decide +kernel
theorem dX12_seek_7 : decode cX12_seek 7 = .ok (.aload_n 0, 1) := by decide +kernel
theorem dX12_seek_8 : decode cX12_seek 8 = .ok (.getfield 43, 3) := by decide +kernel
theorem dX12_seek_11 : decode cX12_seek 11 = .ok (.iload_n 1, 1) := by decide +kernel
theorem dX12_seek_12 : decode cX12_seek 12 = .ok (.iload_n 3, 1) := by decide +kernel
theorem dX12_seek_13 : decode cX12_seek 13 = .ok (.iadd, 1) := by decide +kernel
theorem dX12_seek_14 : decode cX12_seek 14 = .ok (.laload, 1) := by decide +kernel
theorem dX12_seek_15 : decode cX12_seek 15 = .ok (.aload_n 0, 1) := by decide +kernel
theorem dX12_seek_16 : decode cX12_seek 16 = .ok (.getfield 174, 3) := by decide +kernel
theorem dX12_seek_19 : decode cX12_seek 19 = .ok (.lcmp, 1) := by decide +kernel
theorem dX12_seek_20 : decode cX12_seek 20 = .ok (.ifCond .ne 5, 3) := by decide +kernel
theorem dX12_seek_23 : decode cX12_seek 23 = .ok (.iload_n 3, 1) := by decide +kernel
theorem dX12_seek_24 : decode cX12_seek 24 = .ok (.ireturn, 1) := by decide +kernel
theorem dX12_seek_25 : decode cX12_seek 25 = .ok (.iinc 3 1, 3) := by decide +kernel
theorem dX12_seek_28 : decode cX12_seek 28 = .ok (.goto (-26), 3) := by decide +kernel
theorem dX12_seek_31 : decode cX12_seek 31 = .ok (.iconst (-1), 1) := by decide +kernel
theorem dX12_seek_32 : decode cX12_seek 32 = .ok (.ireturn, 1) := by decide +kernel
theorem dX12_fresh_0 : decode cX12_fresh 0 = .ok (.aload_n 0, 1) := by decide +kernel
theorem dX12_fresh_1 : decode cX12_fresh 1 = .ok (.invokevirtual 204, 3) := by decide +kernel
theorem dX12_fresh_4 : decode cX12_fresh 4 = .ok (.ifCond .ne 9, 3) := by decide +kernel
theorem dX12_fresh_7 : decode cX12_fresh 7 = .ok (.aload_n 0, 1) := by decide +kernel
theorem dX12_fresh_8 : decode cX12_fresh 8 = .ok (.iconst 1, 1) := by decide +kernel
theorem dX12_fresh_9 : decode cX12_fresh 9 = .ok (.invokevirtual 187, 3) := by decide +kernel
theorem dX12_fresh_12 : decode cX12_fresh 12 = .ok (.ireturn, 1) := by decide +kernel
theorem dX12_fresh_13 : decode cX12_fresh 13 = .ok (.aload_n 0, 1) := by decide +kernel
theorem dX12_fresh_14 : decode cX12_fresh 14 = .ok (.bipush 14, 2) := by decide +kernel
theorem dX12_fresh_16 : decode cX12_fresh 16 = .ok (.aload_n 0, 1) := by decide +kernel
theorem dX12_fresh_17 : decode cX12_fresh 17 = .ok (.getfield 37, 3) := by decide +kernel
theorem dX12_fresh_20 : decode cX12_fresh 20 = .ok (.iconst 0, 1) := by decide +kernel
theorem dX12_fresh_21 : decode cX12_fresh 21 = .ok (.iaload, 1) := by decide +kernel
theorem dX12_fresh_22 : decode cX12_fresh 22 = .ok (.invokevirtual 208, 3) := by decide +kernel
theorem dX12_fresh_25 : decode cX12_fresh 25 = .ok (.ifCond .ge 18, 3) := by decide +kernel
theorem dX12_fresh_28 : decode cX12_fresh 28 = .ok (.aload_n 0, 1) := by decide +kernel
theorem dX12_fresh_29 : decode cX12_fresh 29 = .ok (.bipush 20, 2) := by decide +kernel
theorem dX12_fresh_31 : decode cX12_fresh 31 = .ok (.aload_n 0, 1) := by decide +kernel
theorem dX12_fresh_32 : decode cX12_fresh 32 = .ok (.getfield 37, 3) := by decide +kernel
theorem dX12_fresh_35 : decode cX12_fresh 35 = .ok (.iconst 1, 1) := by decide +kernel
theorem dX12_fresh_36 : decode cX12_fresh 36 = .ok (.iaload, 1) := by decide +kernel
theorem dX12_fresh_37 : decode cX12_fresh 37 = .ok (.invokevirtual 208, 3) := by decide +kernel
theorem dX12_fresh_40 : decode cX12_fresh 40 = .ok (.ifCond .lt 9, 3) := by decide +kernel
theorem dX12_fresh_43 : decode cX12_fresh 43 = .ok (.aload_n 0, 1) := by decide +kernel
theorem dX12_fresh_44 : decode cX12_fresh 44 = .ok (.iconst 3, 1) := by decide +kernel
theorem dX12_fresh_45 : decode cX12_fresh 45 = .ok (.invokevirtual 187, 3) := by decide +kernel
theorem dX12_fresh_48 : decode cX12_fresh 48 = .ok (.ireturn, 1) := by decide +kernel
theorem dX12_fresh_49 : decode cX12_fresh 49 = .ok (.aload_n 0, 1) := by decide +kernel
theorem dX12_fresh_50 : decode cX12_fresh 50 = .ok (.getfield 43, 3) := by decide +kernel
theorem dX12_fresh_53 : decode cX12_fresh 53 = .ok (.iload_n 1, 1) := by decide +kernel
theorem dX12_fresh_54 : decode cX12_fresh 54 = .ok (.aload_n 0, 1) := by decide +kernel
theorem dX12_fresh_55 : decode cX12_fresh 55 = .ok (.getfield 174, 3) := by decide +kernel
theorem dX12_fresh_58 : decode cX12_fresh 58 = .ok (.lastore, 1) := by decide +kernel
theorem dX12_fresh_59 : decode cX12_fresh 59 = .ok (.aload_n 0, 1) := by decide +kernel
theorem dX12_fresh_60 : decode cX12_fresh 60 = .ok (.invokevirtual 190, 3) := by decide +kernel
theorem dX12_fresh_63 : decode cX12_fresh 63 = .ok (.iconst 1, 1) := by decide +kernel
theorem dX12_fresh_64 : decode cX12_fresh 64 = .ok (.ireturn, 1) := by decide +kernel
theorem dX12_looksAt_0 : decode cX12_looksAt 0 = .ok (.aload_n 0, 1) := by decide +kernel
theorem dX12_looksAt_1 : decode cX12_looksAt 1 = .ok (.invokevirtual 204, 3) := by decide +kernel
theorem dX12_looksAt_4 : decode cX12_looksAt 4 = .ok (.ifCond .ne 9, 3) := by decide +kernel
theorem dX12_looksAt_7 : decode cX12_looksAt 7 = .ok (.aload_n 0, 1) := by decide +kernel
theorem dX12_looksAt_8 : decode cX12_looksAt 8 = .ok (.iconst 1, 1) := by decide +kernel
theorem dX12_looksAt_9 : decode cX12_looksAt 9 = .ok (.invokevirtual 187, 3) := by decide +kernel
theorem dX12_looksAt_12 : decode cX12_looksAt 12 = .ok (.ireturn, 1) := by decide +kernel
theorem dX12_looksAt_13 : decode cX12_looksAt 13 = .ok (.aload_n 0, 1) := by decide +kernel
theorem dX12_looksAt_14 : decode cX12_looksAt 14 = .ok (.aload_n 0, 1) := by decide +kernel
theorem dX12_looksAt_15 : decode cX12_looksAt 15 = .ok (.iload_n 1, 1) := by decide +kernel
theorem dX12_looksAt_16 : decode cX12_looksAt 16 = .ok (.iload_n 2, 1) := by decide +kernel
theorem dX12_looksAt_17 : decode cX12_looksAt 17 = .ok (.invokevirtual 208, 3) := by decide +kernel
theorem dX12_looksAt_20 : decode cX12_looksAt 20 = .ok (.putfield 197, 3) := by decide +kernel
theorem dX12_looksAt_23 : decode cX12_looksAt 23 = .ok (.aload_n 0, 1) := by decide +kernel
theorem dX12_looksAt_24 : decode cX12_looksAt 24 = .ok (.getfield 197, 3) := by decide +kernel
theorem dX12_looksAt_27 : decode cX12_looksAt 27 = .ok (.ifCond .ge 11, 3) := by decide +kernel
theorem dX12_looksAt_30 : decode cX12_looksAt 30 = .ok (.aload_n 0, 1) := by decide +kernel
theorem dX12_looksAt_31 : decode cX12_looksAt 31 = .ok (.iconst 3, 1) := by decide +kernel
theorem dX12_looksAt_32 : decode cX12_looksAt 32 = .ok (.invokevirtual 187, 3) := by decide +kernel
theorem dX12_looksAt_35 : decode cX12_looksAt 35 = .ok (.ifCond .eq 7, 3) := by decide +kernel
theorem dX12_looksAt_38 : decode cX12_looksAt 38 = .ok (.iconst 1, 1) := by decide +kernel
theorem dX12_looksAt_39 : decode cX12_looksAt 39 = .ok (.goto 4, 3) := by decide +kernel
theorem dX12_looksAt_42 : decode cX12_looksAt 42 = .ok (.iconst 0, 1) := by decide +kernel
theorem dX12_looksAt_43 : decode cX12_looksAt 43 = .ok (.ireturn, 1) := by decide +kernel
theorem dX12_takesName_0 : decode cX12_takesName 0 = .ok (.aload_n 0, 1) := by decide +kernel
theorem dX12_takesName_1 : decode cX12_takesName 1 = .ok (.iload_n 1, 1) := by decide +kernel
theorem dX12_takesName_2 : decode cX12_takesName 2 = .ok (.iload_n 2, 1) := by decide +kernel
theorem dX12_takesName_3 : decode cX12_takesName 3 = .ok (.invokevirtual 212, 3) := by decide +kernel
theorem dX12_takesName_6 : decode cX12_takesName 6 = .ok (.ifCond .ne 5, 3) := by decide +kernel
theorem dX12_takesName_9 : decode cX12_takesName 9 = .ok (.iconst 0, 1) := by decide +kernel
theorem dX12_takesName_10 : decode cX12_takesName 10 = .ok (.ireturn, 1) := by decide +kernel
theorem dX12_takesName_11 : decode cX12_takesName 11 = .ok (.aload_n 0, 1) := by decide +kernel
theorem dX12_takesName_12 : decode cX12_takesName 12 = .ok (.invokevirtual 190, 3) := by decide +kernel
theorem dX12_takesName_15 : decode cX12_takesName 15 = .ok (.iconst 1, 1) := by decide +kernel
theorem dX12_takesName_16 : decode cX12_takesName 16 = .ok (.ireturn, 1) := by decide +kernel
theorem dX12_once_0 : decode cX12_once 0 = .ok (.aload_n 0, 1) := by decide +kernel
theorem dX12_once_1 : decode cX12_once 1 = .ok (.getfield 215, 3) := by decide +kernel
theorem dX12_once_4 : decode cX12_once 4 = .ok (.iload_n 1, 1) := by decide +kernel
theorem dX12_once_5 : decode cX12_once 5 = .ok (.invokestatic 218, 3) := by decide +kernel
theorem dX12_once_8 : decode cX12_once 8 = .ok (.ifCond .eq 9, 3) := by decide +kernel
theorem dX12_once_11 : decode cX12_once 11 = .ok (.aload_n 0, 1) := by decide +kernel
theorem dX12_once_12 : decode cX12_once 12 = .ok (.iconst 3, 1) := by decide +kernel
theorem dX12_once_13 : decode cX12_once 13 = .ok (.invokevirtual 187, 3) := by decide +kernel
theorem dX12_once_16 : decode cX12_once 16 = .ok (.ireturn, 1) := by decide +kernel
theorem dX12_once_17 : decode cX12_once 17 = .ok (.aload_n 0, 1) := by decide +kernel
theorem dX12_once_18 : decode cX12_once 18 = .ok (.dup, 1) := by decide +kernel
theorem dX12_once_19 : decode cX12_once 19 = .ok (.getfield 215, 3) := by decide +kernel
theorem dX12_once_22 : decode cX12_once 22 = .ok (.iconst 1, 1) := by decide +kernel
theorem dX12_once_23 : decode cX12_once 23 = .ok (.iload_n 1, 1) := by decide +kernel
theorem dX12_once_24 : decode cX12_once 24 = .ok (.ishl, 1) := by decide +kernel
theorem dX12_once_25 : decode cX12_once 25 = .ok (.ior, 1) := by decide +kernel
theorem dX12_once_26 : decode cX12_once 26 = .ok (.putfield 215, 3) := by decide +kernel
theorem dX12_once_29 : decode cX12_once 29 = .ok (.aload_n 0, 1) := by decide +kernel
theorem dX12_once_30 : decode cX12_once 30 = .ok (.invokevirtual 190, 3) := by decide +kernel
theorem dX12_once_33 : decode cX12_once 33 = .ok (.iconst 1, 1) := by decide +kernel
theorem dX12_once_34 : decode cX12_once 34 = .ok (.ireturn, 1) := by decide +kernel
theorem dX12_readLine_0 : decode cX12_readLine 0 = .ok (.aload_n 0, 1) := by decide +kernel
theorem dX12_readLine_1 : decode cX12_readLine 1 = .ok (.ldc2_w 90, 3) := by decide +kernel
theorem dX12_readLine_4 : decode cX12_readLine 4 = .ok (.invokevirtual 221, 3) := by decide +kernel
theorem dX12_readLine_7 : decode cX12_readLine 7 = .ok (.ifCond .eq 28, 3) := by decide +kernel
theorem dX12_readLine_10 : decode cX12_readLine 10 = .ok (.aload_n 0, 1) := by decide +kernel
theorem dX12_readLine_11 : decode cX12_readLine 11 = .ok (.iconst 0, 1) := by decide +kernel
theorem dX12_readLine_12 : decode cX12_readLine 12 = .ok (.invokevirtual 225, 3) := by decide +kernel
theorem dX12_readLine_15 : decode cX12_readLine 15 = .ok (.ifCond .eq 18, 3) := by decide +kernel
theorem dX12_readLine_18 : decode cX12_readLine 18 = .ok (.aload_n 0, 1) := by decide +kernel
theorem dX12_readLine_19 : decode cX12_readLine 19 = .ok (.iconst 2, 1) := by decide +kernel
theorem dX12_readLine_20 : decode cX12_readLine 20 = .ok (.iconst 2, 1) := by decide +kernel
theorem dX12_readLine_21 : decode cX12_readLine 21 = .ok (.bipush 20, 2) := by decide +kernel
theorem dX12_readLine_23 : decode cX12_readLine 23 = .ok (.invokevirtual 228, 3) := by decide +kernel
theorem dX12_readLine_26 : decode cX12_readLine 26 = .ok (.ifCond .eq 7, 3) := by decide +kernel
theorem dX12_readLine_29 : decode cX12_readLine 29 = .ok (.iconst 1, 1) := by decide +kernel
theorem dX12_readLine_30 : decode cX12_readLine 30 = .ok (.goto 4, 3) := by decide +kernel
theorem dX12_readLine_33 : decode cX12_readLine 33 = .ok (.iconst 0, 1) := by decide +kernel
theorem dX12_readLine_34 : decode cX12_readLine 34 = .ok (.ireturn, 1) := by decide +kernel
theorem dX12_readLine_35 : decode cX12_readLine 35 = .ok (.aload_n 0, 1) := by decide +kernel
theorem dX12_readLine_36 : decode cX12_readLine 36 = .ok (.ldc2_w 102, 3) := by decide +kernel
theorem dX12_readLine_39 : decode cX12_readLine 39 = .ok (.invokevirtual 221, 3) := by decide +kernel
theorem dX12_readLine_42 : decode cX12_readLine 42 = .ok (.ifCond .eq 28, 3) := by decide +kernel
theorem dX12_readLine_45 : decode cX12_readLine 45 = .ok (.aload_n 0, 1) := by decide +kernel
theorem dX12_readLine_46 : decode cX12_readLine 46 = .ok (.iconst 1, 1) := by decide +kernel
theorem dX12_readLine_47 : decode cX12_readLine 47 = .ok (.invokevirtual 225, 3) := by decide +kernel
theorem dX12_readLine_50 : decode cX12_readLine 50 = .ok (.ifCond .eq 18, 3) := by decide +kernel
theorem dX12_readLine_53 : decode cX12_readLine 53 = .ok (.aload_n 0, 1) := by decide +kernel
theorem dX12_readLine_54 : decode cX12_readLine 54 = .ok (.iconst 3, 1) := by decide +kernel
theorem dX12_readLine_55 : decode cX12_readLine 55 = .ok (.iconst 0, 1) := by decide +kernel
theorem dX12_readLine_56 : decode cX12_readLine 56 = .ok (.bipush 9, 2) := by decide +kernel
theorem dX12_readLine_58 : decode cX12_readLine 58 = .ok (.invokevirtual 228, 3) := by decide +kernel
theorem dX12_readLine_61 : decode cX12_readLine 61 = .ok (.ifCond .eq 7, 3) := by decide +kernel
theorem dX12_readLine_64 : decode cX12_readLine 64 = .ok (.iconst 1, 1) := by decide +kernel
theorem dX12_readLine_65 : decode cX12_readLine 65 = .ok (.goto 4, 3) := by decide +kernel
theorem dX12_readLine_68 : decode cX12_readLine 68 = .ok (.iconst 0, 1) := by decide +kernel
theorem dX12_readLine_69 : decode cX12_readLine 69 = .ok (.ireturn, 1) := by decide +kernel
theorem dX12_readLine_70 : decode cX12_readLine 70 = .ok (.aload_n 0, 1) := by decide +kernel
theorem dX12_readLine_71 : decode cX12_readLine 71 = .ok (.ldc2_w 104, 3) := by decide +kernel
theorem dX12_readLine_74 : decode cX12_readLine 74 = .ok (.invokevirtual 221, 3) := by decide +kernel
theorem dX12_readLine_77 : decode cX12_readLine 77 = .ok (.ifCond .eq 28, 3) := by decide +kernel
theorem dX12_readLine_80 : decode cX12_readLine 80 = .ok (.aload_n 0, 1) := by decide +kernel
theorem dX12_readLine_81 : decode cX12_readLine 81 = .ok (.iconst 2, 1) := by decide +kernel
theorem dX12_readLine_82 : decode cX12_readLine 82 = .ok (.invokevirtual 225, 3) := by decide +kernel
theorem dX12_readLine_85 : decode cX12_readLine 85 = .ok (.ifCond .eq 18, 3) := by decide +kernel
theorem dX12_readLine_88 : decode cX12_readLine 88 = .ok (.aload_n 0, 1) := by decide +kernel
theorem dX12_readLine_89 : decode cX12_readLine 89 = .ok (.iconst 4, 1) := by decide +kernel
theorem dX12_readLine_90 : decode cX12_readLine 90 = .ok (.iconst 1, 1) := by decide +kernel
theorem dX12_readLine_91 : decode cX12_readLine 91 = .ok (.bipush 30, 2) := by decide +kernel
theorem dX12_readLine_93 : decode cX12_readLine 93 = .ok (.invokevirtual 228, 3) := by decide +kernel
theorem dX12_readLine_96 : decode cX12_readLine 96 = .ok (.ifCond .eq 7, 3) := by decide +kernel
theorem dX12_readLine_99 : decode cX12_readLine 99 = .ok (.iconst 1, 1) := by decide +kernel
theorem dX12_readLine_100 : decode cX12_readLine 100 = .ok (.goto 4, 3) := by decide +kernel
theorem dX12_readLine_103 : decode cX12_readLine 103 = .ok (.iconst 0, 1) := by decide +kernel
theorem dX12_readLine_104 : decode cX12_readLine 104 = .ok (.ireturn, 1) := by decide +kernel
theorem dX12_readLine_105 : decode cX12_readLine 105 = .ok (.aload_n 0, 1) := by decide +kernel
theorem dX12_readLine_106 : decode cX12_readLine 106 = .ok (.ldc2_w 92, 3) := by decide +kernel
theorem dX12_readLine_109 : decode cX12_readLine 109 = .ok (.invokevirtual 221, 3) := by decide +kernel
theorem dX12_readLine_112 : decode cX12_readLine 112 = .ok (.ifCond .eq 8, 3) := by decide +kernel
theorem dX12_readLine_115 : decode cX12_readLine 115 = .ok (.aload_n 0, 1) := by decide +kernel
theorem dX12_readLine_116 : decode cX12_readLine 116 = .ok (.invokevirtual 231, 3) := by decide +kernel
theorem dX12_readLine_119 : decode cX12_readLine 119 = .ok (.ireturn, 1) := by decide +kernel
theorem dX12_readLine_120 : decode cX12_readLine 120 = .ok (.aload_n 0, 1) := by decide +kernel
theorem dX12_readLine_121 : decode cX12_readLine 121 = .ok (.ldc2_w 94, 3) := by decide +kernel
theorem dX12_readLine_124 : decode cX12_readLine 124 = .ok (.invokevirtual 221, 3) := by decide +kernel
theorem dX12_readLine_127 : decode cX12_readLine 127 = .ok (.ifCond .eq 8, 3) := by decide +kernel
theorem dX12_readLine_130 : decode cX12_readLine 130 = .ok (.aload_n 0, 1) := by decide +kernel
theorem dX12_readLine_131 : decode cX12_readLine 131 = .ok (.invokevirtual 234, 3) := by decide +kernel
theorem dX12_readLine_134 : decode cX12_readLine 134 = .ok (.ireturn, 1) := by decide +kernel
theorem dX12_readLine_135 : decode cX12_readLine 135 = .ok (.aload_n 0, 1) := by decide +kernel
theorem dX12_readLine_136 : decode cX12_readLine 136 = .ok (.ldc2_w 98, 3) := by decide +kernel
theorem dX12_readLine_139 : decode cX12_readLine 139 = .ok (.invokevirtual 221, 3) := by decide +kernel
theorem dX12_readLine_142 : decode cX12_readLine 142 = .ok (.ifCond .eq 8, 3) := by decide +kernel
theorem dX12_readLine_145 : decode cX12_readLine 145 = .ok (.aload_n 0, 1) := by decide +kernel
theorem dX12_readLine_146 : decode cX12_readLine 146 = .ok (.invokevirtual 237, 3) := by decide +kernel
theorem dX12_readLine_149 : decode cX12_readLine 149 = .ok (.ireturn, 1) := by decide +kernel
theorem dX12_readLine_150 : decode cX12_readLine 150 = .ok (.aload_n 0, 1) := by decide +kernel
theorem dX12_readLine_151 : decode cX12_readLine 151 = .ok (.ldc2_w 100, 3) := by decide +kernel
theorem dX12_readLine_154 : decode cX12_readLine 154 = .ok (.invokevirtual 221, 3) := by decide +kernel
theorem dX12_readLine_157 : decode cX12_readLine 157 = .ok (.ifCond .eq 10, 3) := by decide +kernel
theorem dX12_readLine_160 : decode cX12_readLine 160 = .ok (.aload_n 0, 1) := by decide +kernel
theorem dX12_readLine_161 : decode cX12_readLine 161 = .ok (.invokevirtual 240, 3) := by decide +kernel
theorem dX12_readLine_164 : decode cX12_readLine 164 = .ok (.goto 8, 3) := by decide +kernel
theorem dX12_readLine_167 : decode cX12_readLine 167 = .ok (.aload_n 0, 1) := by decide +kernel
theorem dX12_readLine_168 : decode cX12_readLine 168 = .ok (.iconst 1, 1) := by decide +kernel
theorem dX12_readLine_169 : decode cX12_readLine 169 = .ok (.invokevirtual 187, 3) := by decide +kernel
theorem dX12_readLine_172 : decode cX12_readLine 172 = .ok (.ireturn, 1) := by decide +kernel
theorem dX12_readHouse_0 : decode cX12_readHouse 0 = .ok (.aload_n 0, 1) := by decide +kernel
theorem dX12_readHouse_1 : decode cX12_readHouse 1 = .ok (.getfield 37, 3) := by decide +kernel
theorem dX12_readHouse_4 : decode cX12_readHouse 4 = .ok (.iconst 0, 1) := by decide +kernel
theorem dX12_readHouse_5 : decode cX12_readHouse 5 = .ok (.iaload, 1) := by decide +kernel
theorem dX12_readHouse_6 : decode cX12_readHouse 6 = .ok (.istore_n 1, 1) := by decide +kernel
theorem dX12_readHouse_7 : decode cX12_readHouse 7 = .ok (.iload_n 1, 1) := by decide +kernel
theorem dX12_readHouse_8 : decode cX12_readHouse 8 = .ok (.bipush 6, 2) := by decide +kernel
theorem dX12_readHouse_10 : decode cX12_readHouse 10 = .ok (.if_icmp .ne 9, 3) := by decide +kernel
theorem dX12_readHouse_13 : decode cX12_readHouse 13 = .ok (.aload_n 0, 1) := by decide +kernel
theorem dX12_readHouse_14 : decode cX12_readHouse 14 = .ok (.iconst 4, 1) := by decide +kernel
theorem dX12_readHouse_15 : decode cX12_readHouse 15 = .ok (.invokevirtual 187, 3) := by decide +kernel
theorem dX12_readHouse_18 : decode cX12_readHouse 18 = .ok (.ireturn, 1) := by decide +kernel
theorem dX12_readHouse_19 : decode cX12_readHouse 19 = .ok (.aload_n 0, 1) := by decide +kernel
theorem dX12_readHouse_20 : decode cX12_readHouse 20 = .ok (.dup, 1) := by decide +kernel
theorem dX12_readHouse_21 : decode cX12_readHouse 21 = .ok (.getfield 215, 3) := by decide +kernel
theorem dX12_readHouse_24 : decode cX12_readHouse 24 = .ok (.iconst 1, 1) := by decide +kernel
theorem dX12_readHouse_25 : decode cX12_readHouse 25 = .ok (.ior, 1) := by decide +kernel
theorem dX12_readHouse_26 : decode cX12_readHouse 26 = .ok (.putfield 215, 3) := by decide +kernel
theorem dX12_readHouse_29 : decode cX12_readHouse 29 = .ok (.aload_n 0, 1) := by decide +kernel
theorem dX12_readHouse_30 : decode cX12_readHouse 30 = .ok (.invokevirtual 190, 3) := by decide +kernel
theorem dX12_readHouse_33 : decode cX12_readHouse 33 = .ok (.aload_n 0, 1) := by decide +kernel
theorem dX12_readHouse_34 : decode cX12_readHouse 34 = .ok (.bipush 14, 2) := by decide +kernel
theorem dX12_readHouse_36 : decode cX12_readHouse 36 = .ok (.iload_n 1, 1) := by decide +kernel
theorem dX12_readHouse_37 : decode cX12_readHouse 37 = .ok (.iadd, 1) := by decide +kernel
theorem dX12_readHouse_38 : decode cX12_readHouse 38 = .ok (.invokevirtual 243, 3) := by decide +kernel
theorem dX12_readHouse_41 : decode cX12_readHouse 41 = .ok (.ifCond .eq 22, 3) := by decide +kernel
theorem dX12_readHouse_44 : decode cX12_readHouse 44 = .ok (.aload_n 0, 1) := by decide +kernel
theorem dX12_readHouse_45 : decode cX12_readHouse 45 = .ok (.iconst 5, 1) := by decide +kernel
theorem dX12_readHouse_46 : decode cX12_readHouse 46 = .ok (.iload_n 1, 1) := by decide +kernel
theorem dX12_readHouse_47 : decode cX12_readHouse 47 = .ok (.iadd, 1) := by decide +kernel
theorem dX12_readHouse_48 : decode cX12_readHouse 48 = .ok (.iconst 0, 1) := by decide +kernel
theorem dX12_readHouse_49 : decode cX12_readHouse 49 = .ok (.aload_n 0, 1) := by decide +kernel
theorem dX12_readHouse_50 : decode cX12_readHouse 50 = .ok (.getfield 37, 3) := by decide +kernel
theorem dX12_readHouse_53 : decode cX12_readHouse 53 = .ok (.iconst 2, 1) := by decide +kernel
theorem dX12_readHouse_54 : decode cX12_readHouse 54 = .ok (.iaload, 1) := by decide +kernel
theorem dX12_readHouse_55 : decode cX12_readHouse 55 = .ok (.iconst 1, 1) := by decide +kernel
theorem dX12_readHouse_56 : decode cX12_readHouse 56 = .ok (.isub, 1) := by decide +kernel
theorem dX12_readHouse_57 : decode cX12_readHouse 57 = .ok (.invokevirtual 228, 3) := by decide +kernel
theorem dX12_readHouse_60 : decode cX12_readHouse 60 = .ok (.ifCond .ne 5, 3) := by decide +kernel
theorem dX12_readHouse_63 : decode cX12_readHouse 63 = .ok (.iconst 0, 1) := by decide +kernel
theorem dX12_readHouse_64 : decode cX12_readHouse 64 = .ok (.ireturn, 1) := by decide +kernel
theorem dX12_readHouse_65 : decode cX12_readHouse 65 = .ok (.aload_n 0, 1) := by decide +kernel
theorem dX12_readHouse_66 : decode cX12_readHouse 66 = .ok (.getfield 37, 3) := by decide +kernel
theorem dX12_readHouse_69 : decode cX12_readHouse 69 = .ok (.iconst 0, 1) := by decide +kernel
theorem dX12_readHouse_70 : decode cX12_readHouse 70 = .ok (.dup2, 1) := by decide +kernel
theorem dX12_readHouse_71 : decode cX12_readHouse 71 = .ok (.iaload, 1) := by decide +kernel
theorem dX12_readHouse_72 : decode cX12_readHouse 72 = .ok (.iconst 1, 1) := by decide +kernel
theorem dX12_readHouse_73 : decode cX12_readHouse 73 = .ok (.iadd, 1) := by decide +kernel
theorem dX12_readHouse_74 : decode cX12_readHouse 74 = .ok (.iastore, 1) := by decide +kernel
theorem dX12_readHouse_75 : decode cX12_readHouse 75 = .ok (.iconst 1, 1) := by decide +kernel
theorem dX12_readHouse_76 : decode cX12_readHouse 76 = .ok (.ireturn, 1) := by decide +kernel
theorem dX12_wayWord_0 : decode cX12_wayWord 0 = .ok (.aload_n 0, 1) := by decide +kernel
theorem dX12_wayWord_1 : decode cX12_wayWord 1 = .ok (.ldc2_w 106, 3) := by decide +kernel
theorem dX12_wayWord_4 : decode cX12_wayWord 4 = .ok (.invokevirtual 221, 3) := by decide +kernel
theorem dX12_wayWord_7 : decode cX12_wayWord 7 = .ok (.ifCond .eq 7, 3) := by decide +kernel
theorem dX12_wayWord_10 : decode cX12_wayWord 10 = .ok (.iconst 0, 1) := by decide +kernel
theorem dX12_wayWord_11 : decode cX12_wayWord 11 = .ok (.goto 32, 3) := by decide +kernel
theorem dX12_wayWord_14 : decode cX12_wayWord 14 = .ok (.aload_n 0, 1) := by decide +kernel
theorem dX12_wayWord_15 : decode cX12_wayWord 15 = .ok (.ldc2_w 108, 3) := by decide +kernel
theorem dX12_wayWord_18 : decode cX12_wayWord 18 = .ok (.invokevirtual 221, 3) := by decide +kernel
theorem dX12_wayWord_21 : decode cX12_wayWord 21 = .ok (.ifCond .eq 7, 3) := by decide +kernel
theorem dX12_wayWord_24 : decode cX12_wayWord 24 = .ok (.iconst 1, 1) := by decide +kernel
theorem dX12_wayWord_25 : decode cX12_wayWord 25 = .ok (.goto 18, 3) := by decide +kernel
theorem dX12_wayWord_28 : decode cX12_wayWord 28 = .ok (.aload_n 0, 1) := by decide +kernel
theorem dX12_wayWord_29 : decode cX12_wayWord 29 = .ok (.ldc2_w 110, 3) := by decide +kernel
theorem dX12_wayWord_32 : decode cX12_wayWord 32 = .ok (.invokevirtual 221, 3) := by decide +kernel
theorem dX12_wayWord_35 : decode cX12_wayWord 35 = .ok (.ifCond .eq 7, 3) := by decide +kernel
theorem dX12_wayWord_38 : decode cX12_wayWord 38 = .ok (.iconst 2, 1) := by decide +kernel
theorem dX12_wayWord_39 : decode cX12_wayWord 39 = .ok (.goto 4, 3) := by decide +kernel
theorem dX12_wayWord_42 : decode cX12_wayWord 42 = .ok (.iconst (-1), 1) := by decide +kernel
theorem dX12_wayWord_43 : decode cX12_wayWord 43 = .ok (.ireturn, 1) := by decide +kernel
theorem dX12_takesWay_0 : decode cX12_takesWay 0 = .ok (.aload_n 0, 1) := by decide +kernel
theorem dX12_takesWay_1 : decode cX12_takesWay 1 = .ok (.aload_n 0, 1) := by decide +kernel
theorem dX12_takesWay_2 : decode cX12_takesWay 2 = .ok (.invokevirtual 246, 3) := by decide +kernel
theorem dX12_takesWay_5 : decode cX12_takesWay 5 = .ok (.putfield 197, 3) := by decide +kernel
theorem dX12_takesWay_8 : decode cX12_takesWay 8 = .ok (.aload_n 0, 1) := by decide +kernel
theorem dX12_takesWay_9 : decode cX12_takesWay 9 = .ok (.getfield 197, 3) := by decide +kernel
theorem dX12_takesWay_12 : decode cX12_takesWay 12 = .ok (.ifCond .ge 9, 3) := by decide +kernel
theorem dX12_takesWay_15 : decode cX12_takesWay 15 = .ok (.aload_n 0, 1) := by decide +kernel
theorem dX12_takesWay_16 : decode cX12_takesWay 16 = .ok (.iconst 1, 1) := by decide +kernel
theorem dX12_takesWay_17 : decode cX12_takesWay 17 = .ok (.invokevirtual 187, 3) := by decide +kernel
theorem dX12_takesWay_20 : decode cX12_takesWay 20 = .ok (.ireturn, 1) := by decide +kernel
theorem dX12_takesWay_21 : decode cX12_takesWay 21 = .ok (.aload_n 0, 1) := by decide +kernel
theorem dX12_takesWay_22 : decode cX12_takesWay 22 = .ok (.invokevirtual 190, 3) := by decide +kernel
theorem dX12_takesWay_25 : decode cX12_takesWay 25 = .ok (.iconst 1, 1) := by decide +kernel
theorem dX12_takesWay_26 : decode cX12_takesWay 26 = .ok (.ireturn, 1) := by decide +kernel
theorem dX12_readPerson_0 : decode cX12_readPerson 0 = .ok (.aload_n 0, 1) := by decide +kernel
theorem dX12_readPerson_1 : decode cX12_readPerson 1 = .ok (.getfield 37, 3) := by decide +kernel
theorem dX12_readPerson_4 : decode cX12_readPerson 4 = .ok (.iconst 1, 1) := by decide +kernel
theorem dX12_readPerson_5 : decode cX12_readPerson 5 = .ok (.iaload, 1) := by decide +kernel
theorem dX12_readPerson_6 : decode cX12_readPerson 6 = .ok (.istore_n 1, 1) := by decide +kernel
theorem dX12_readPerson_7 : decode cX12_readPerson 7 = .ok (.iload_n 1, 1) := by decide +kernel
theorem dX12_readPerson_8 : decode cX12_readPerson 8 = .ok (.bipush 8, 2) := by decide +kernel
theorem dX12_readPerson_10 : decode cX12_readPerson 10 = .ok (.if_icmp .ne 9, 3) := by decide +kernel
theorem dX12_readPerson_13 : decode cX12_readPerson 13 = .ok (.aload_n 0, 1) := by decide +kernel
theorem dX12_readPerson_14 : decode cX12_readPerson 14 = .ok (.iconst 4, 1) := by decide +kernel
theorem dX12_readPerson_15 : decode cX12_readPerson 15 = .ok (.invokevirtual 187, 3) := by decide +kernel
theorem dX12_readPerson_18 : decode cX12_readPerson 18 = .ok (.ireturn, 1) := by decide +kernel
theorem dX12_readPerson_19 : decode cX12_readPerson 19 = .ok (.aload_n 0, 1) := by decide +kernel
theorem dX12_readPerson_20 : decode cX12_readPerson 20 = .ok (.dup, 1) := by decide +kernel
theorem dX12_readPerson_21 : decode cX12_readPerson 21 = .ok (.getfield 215, 3) := by decide +kernel
theorem dX12_readPerson_24 : decode cX12_readPerson 24 = .ok (.iconst 1, 1) := by decide +kernel
theorem dX12_readPerson_25 : decode cX12_readPerson 25 = .ok (.ior, 1) := by decide +kernel
theorem dX12_readPerson_26 : decode cX12_readPerson 26 = .ok (.putfield 215, 3) := by decide +kernel
theorem dX12_readPerson_29 : decode cX12_readPerson 29 = .ok (.aload_n 0, 1) := by decide +kernel
theorem dX12_readPerson_30 : decode cX12_readPerson 30 = .ok (.invokevirtual 190, 3) := by decide +kernel
theorem dX12_readPerson_33 : decode cX12_readPerson 33 = .ok (.aload_n 0, 1) := by decide +kernel
theorem dX12_readPerson_34 : decode cX12_readPerson 34 = .ok (.bipush 20, 2) := by decide +kernel
theorem dX12_readPerson_36 : decode cX12_readPerson 36 = .ok (.iload_n 1, 1) := by decide +kernel
theorem dX12_readPerson_37 : decode cX12_readPerson 37 = .ok (.iadd, 1) := by decide +kernel
theorem dX12_readPerson_38 : decode cX12_readPerson 38 = .ok (.invokevirtual 243, 3) := by decide +kernel
theorem dX12_readPerson_41 : decode cX12_readPerson 41 = .ok (.ifCond .ne 5, 3) := by decide +kernel
theorem dX12_readPerson_44 : decode cX12_readPerson 44 = .ok (.iconst 0, 1) := by decide +kernel
theorem dX12_readPerson_45 : decode cX12_readPerson 45 = .ok (.ireturn, 1) := by decide +kernel
theorem dX12_readPerson_46 : decode cX12_readPerson 46 = .ok (.aload_n 0, 1) := by decide +kernel
theorem dX12_readPerson_47 : decode cX12_readPerson 47 = .ok (.getfield 37, 3) := by decide +kernel
theorem dX12_readPerson_50 : decode cX12_readPerson 50 = .ok (.bipush 11, 2) := by decide +kernel
theorem dX12_readPerson_52 : decode cX12_readPerson 52 = .ok (.iload_n 1, 1) := by decide +kernel
theorem dX12_readPerson_53 : decode cX12_readPerson 53 = .ok (.iadd, 1) := by decide +kernel
theorem dX12_readPerson_54 : decode cX12_readPerson 54 = .ok (.iconst 0, 1) := by decide +kernel
theorem dX12_readPerson_55 : decode cX12_readPerson 55 = .ok (.iastore, 1) := by decide +kernel
theorem dX12_readPerson_56 : decode cX12_readPerson 56 = .ok (.aload_n 0, 1) := by decide +kernel
theorem dX12_readPerson_57 : decode cX12_readPerson 57 = .ok (.ldc2_w 96, 3) := by decide +kernel
theorem dX12_readPerson_60 : decode cX12_readPerson 60 = .ok (.invokevirtual 221, 3) := by decide +kernel
theorem dX12_readPerson_63 : decode cX12_readPerson 63 = .ok (.ifCond .eq 10, 3) := by decide +kernel
theorem dX12_readPerson_66 : decode cX12_readPerson 66 = .ok (.aload_n 0, 1) := by decide +kernel
theorem dX12_readPerson_67 : decode cX12_readPerson 67 = .ok (.invokevirtual 190, 3) := by decide +kernel
theorem dX12_readPerson_70 : decode cX12_readPerson 70 = .ok (.goto 35, 3) := by decide +kernel
theorem dX12_readPerson_73 : decode cX12_readPerson 73 = .ok (.aload_n 0, 1) := by decide +kernel
theorem dX12_readPerson_74 : decode cX12_readPerson 74 = .ok (.bipush 14, 2) := by decide +kernel
theorem dX12_readPerson_76 : decode cX12_readPerson 76 = .ok (.aload_n 0, 1) := by decide +kernel
theorem dX12_readPerson_77 : decode cX12_readPerson 77 = .ok (.getfield 37, 3) := by decide +kernel
theorem dX12_readPerson_80 : decode cX12_readPerson 80 = .ok (.iconst 0, 1) := by decide +kernel
theorem dX12_readPerson_81 : decode cX12_readPerson 81 = .ok (.iaload, 1) := by decide +kernel
theorem dX12_readPerson_82 : decode cX12_readPerson 82 = .ok (.invokevirtual 249, 3) := by decide +kernel
theorem dX12_readPerson_85 : decode cX12_readPerson 85 = .ok (.ifCond .ne 5, 3) := by decide +kernel
theorem dX12_readPerson_88 : decode cX12_readPerson 88 = .ok (.iconst 0, 1) := by decide +kernel
theorem dX12_readPerson_89 : decode cX12_readPerson 89 = .ok (.ireturn, 1) := by decide +kernel
theorem dX12_readPerson_90 : decode cX12_readPerson 90 = .ok (.aload_n 0, 1) := by decide +kernel
theorem dX12_readPerson_91 : decode cX12_readPerson 91 = .ok (.getfield 37, 3) := by decide +kernel
theorem dX12_readPerson_94 : decode cX12_readPerson 94 = .ok (.bipush 11, 2) := by decide +kernel
theorem dX12_readPerson_96 : decode cX12_readPerson 96 = .ok (.iload_n 1, 1) := by decide +kernel
theorem dX12_readPerson_97 : decode cX12_readPerson 97 = .ok (.iadd, 1) := by decide +kernel
theorem dX12_readPerson_98 : decode cX12_readPerson 98 = .ok (.aload_n 0, 1) := by decide +kernel
theorem dX12_readPerson_99 : decode cX12_readPerson 99 = .ok (.getfield 197, 3) := by decide +kernel
theorem dX12_readPerson_102 : decode cX12_readPerson 102 = .ok (.iconst 1, 1) := by decide +kernel
theorem dX12_readPerson_103 : decode cX12_readPerson 103 = .ok (.iadd, 1) := by decide +kernel
theorem dX12_readPerson_104 : decode cX12_readPerson 104 = .ok (.iastore, 1) := by decide +kernel
theorem dX12_readPerson_105 : decode cX12_readPerson 105 = .ok (.aload_n 0, 1) := by decide +kernel
theorem dX12_readPerson_106 : decode cX12_readPerson 106 = .ok (.bipush 19, 2) := by decide +kernel
theorem dX12_readPerson_108 : decode cX12_readPerson 108 = .ok (.iload_n 1, 1) := by decide +kernel
theorem dX12_readPerson_109 : decode cX12_readPerson 109 = .ok (.iadd, 1) := by decide +kernel
theorem dX12_readPerson_110 : decode cX12_readPerson 110 = .ok (.iconst 0, 1) := by decide +kernel
theorem dX12_readPerson_111 : decode cX12_readPerson 111 = .ok (.aload_n 0, 1) := by decide +kernel
theorem dX12_readPerson_112 : decode cX12_readPerson 112 = .ok (.getfield 37, 3) := by decide +kernel
theorem dX12_readPerson_115 : decode cX12_readPerson 115 = .ok (.iconst 2, 1) := by decide +kernel
theorem dX12_readPerson_116 : decode cX12_readPerson 116 = .ok (.iaload, 1) := by decide +kernel
theorem dX12_readPerson_117 : decode cX12_readPerson 117 = .ok (.iconst 1, 1) := by decide +kernel
theorem dX12_readPerson_118 : decode cX12_readPerson 118 = .ok (.isub, 1) := by decide +kernel
theorem dX12_readPerson_119 : decode cX12_readPerson 119 = .ok (.invokevirtual 228, 3) := by decide +kernel
theorem dX12_readPerson_122 : decode cX12_readPerson 122 = .ok (.ifCond .eq 10, 3) := by decide +kernel
theorem dX12_readPerson_125 : decode cX12_readPerson 125 = .ok (.aload_n 0, 1) := by decide +kernel
theorem dX12_readPerson_126 : decode cX12_readPerson 126 = .ok (.invokevirtual 252, 3) := by decide +kernel
theorem dX12_readPerson_129 : decode cX12_readPerson 129 = .ok (.ifCond .ne 5, 3) := by decide +kernel
theorem dX12_readPerson_132 : decode cX12_readPerson 132 = .ok (.iconst 0, 1) := by decide +kernel
theorem dX12_readPerson_133 : decode cX12_readPerson 133 = .ok (.ireturn, 1) := by decide +kernel
theorem dX12_readPerson_134 : decode cX12_readPerson 134 = .ok (.aload_n 0, 1) := by decide +kernel
theorem dX12_readPerson_135 : decode cX12_readPerson 135 = .ok (.getfield 37, 3) := by decide +kernel
theorem dX12_readPerson_138 : decode cX12_readPerson 138 = .ok (.bipush 27, 2) := by decide +kernel
theorem dX12_readPerson_140 : decode cX12_readPerson 140 = .ok (.iload_n 1, 1) := by decide +kernel
theorem dX12_readPerson_141 : decode cX12_readPerson 141 = .ok (.iadd, 1) := by decide +kernel
theorem dX12_readPerson_142 : decode cX12_readPerson 142 = .ok (.aload_n 0, 1) := by decide +kernel
theorem dX12_readPerson_143 : decode cX12_readPerson 143 = .ok (.getfield 197, 3) := by decide +kernel
theorem dX12_readPerson_146 : decode cX12_readPerson 146 = .ok (.iastore, 1) := by decide +kernel
theorem dX12_readPerson_147 : decode cX12_readPerson 147 = .ok (.aload_n 0, 1) := by decide +kernel
theorem dX12_readPerson_148 : decode cX12_readPerson 148 = .ok (.ldc2_w 114, 3) := by decide +kernel
theorem dX12_readPerson_151 : decode cX12_readPerson 151 = .ok (.invokevirtual 221, 3) := by decide +kernel
theorem dX12_readPerson_154 : decode cX12_readPerson 154 = .ok (.istore_n 2, 1) := by decide +kernel
theorem dX12_readPerson_155 : decode cX12_readPerson 155 = .ok (.iload_n 2, 1) := by decide +kernel
theorem dX12_readPerson_156 : decode cX12_readPerson 156 = .ok (.ifCond .ne 19, 3) := by decide +kernel
theorem dX12_readPerson_159 : decode cX12_readPerson 159 = .ok (.aload_n 0, 1) := by decide +kernel
theorem dX12_readPerson_160 : decode cX12_readPerson 160 = .ok (.ldc2_w 112, 3) := by decide +kernel
theorem dX12_readPerson_163 : decode cX12_readPerson 163 = .ok (.invokevirtual 221, 3) := by decide +kernel
theorem dX12_readPerson_166 : decode cX12_readPerson 166 = .ok (.ifCond .ne 9, 3) := by decide +kernel
theorem dX12_readPerson_169 : decode cX12_readPerson 169 = .ok (.aload_n 0, 1) := by decide +kernel
theorem dX12_readPerson_170 : decode cX12_readPerson 170 = .ok (.iconst 1, 1) := by decide +kernel
theorem dX12_readPerson_171 : decode cX12_readPerson 171 = .ok (.invokevirtual 187, 3) := by decide +kernel
theorem dX12_readPerson_174 : decode cX12_readPerson 174 = .ok (.ireturn, 1) := by decide +kernel
theorem dX12_readPerson_175 : decode cX12_readPerson 175 = .ok (.aload_n 0, 1) := by decide +kernel
theorem dX12_readPerson_176 : decode cX12_readPerson 176 = .ok (.getfield 37, 3) := by decide +kernel
theorem dX12_readPerson_179 : decode cX12_readPerson 179 = .ok (.bipush 35, 2) := by decide +kernel
theorem dX12_readPerson_181 : decode cX12_readPerson 181 = .ok (.dup2, 1) := by decide +kernel
theorem dX12_readPerson_182 : decode cX12_readPerson 182 = .ok (.iaload, 1) := by decide +kernel
theorem dX12_readPerson_183 : decode cX12_readPerson 183 = .ok (.iload_n 2, 1) := by decide +kernel
theorem dX12_readPerson_184 : decode cX12_readPerson 184 = .ok (.ifCond .eq 9, 3) := by decide +kernel
theorem dX12_readPerson_187 : decode cX12_readPerson 187 = .ok (.iconst 1, 1) := by decide +kernel
theorem dX12_readPerson_188 : decode cX12_readPerson 188 = .ok (.iload_n 1, 1) := by decide +kernel
theorem dX12_readPerson_189 : decode cX12_readPerson 189 = .ok (.ishl, 1) := by decide +kernel
theorem dX12_readPerson_190 : decode cX12_readPerson 190 = .ok (.goto 4, 3) := by decide +kernel
theorem dX12_readPerson_193 : decode cX12_readPerson 193 = .ok (.iconst 0, 1) := by decide +kernel
theorem dX12_readPerson_194 : decode cX12_readPerson 194 = .ok (.ior, 1) := by decide +kernel
theorem dX12_readPerson_195 : decode cX12_readPerson 195 = .ok (.iastore, 1) := by decide +kernel
theorem dX12_readPerson_196 : decode cX12_readPerson 196 = .ok (.aload_n 0, 1) := by decide +kernel
theorem dX12_readPerson_197 : decode cX12_readPerson 197 = .ok (.invokevirtual 190, 3) := by decide +kernel
theorem dX12_readPerson_200 : decode cX12_readPerson 200 = .ok (.iconst 0, 1) := by decide +kernel
theorem dX12_readPerson_201 : decode cX12_readPerson 201 = .ok (.istore_n 3, 1) := by decide +kernel
theorem dX12_readPerson_202 : decode cX12_readPerson 202 = .ok (.iload_n 3, 1) := by decide +kernel
theorem dX12_readPerson_203 : decode cX12_readPerson 203 = .ok (.iload_n 1, 1) := by decide +kernel
theorem dX12_readPerson_204 : decode cX12_readPerson 204 = .ok (.if_icmp .ge 53, 3) := by decide +kernel
theorem dX12_readPerson_207 : decode cX12_readPerson 207 = .ok (.aload_n 0, 1) := by decide +kernel
theorem dX12_readPerson_208 : decode cX12_readPerson 208 = .ok (.getfield 37, 3) := by decide +kernel
theorem dX12_readPerson_211 : decode cX12_readPerson 211 = .ok (.bipush 11, 2) := by decide +kernel
theorem dX12_readPerson_213 : decode cX12_readPerson 213 = .ok (.iload_n 1, 1) := by decide +kernel
theorem dX12_readPerson_214 : decode cX12_readPerson 214 = .ok (.iadd, 1) := by decide +kernel
theorem dX12_readPerson_215 : decode cX12_readPerson 215 = .ok (.iaload, 1) := by decide +kernel
theorem dX12_readPerson_216 : decode cX12_readPerson 216 = .ok (.ifCond .le 35, 3) := by decide +kernel
theorem dX12_readPerson_219 : decode cX12_readPerson 219 = .ok (.aload_n 0, 1) := by decide +kernel
theorem dX12_readPerson_220 : decode cX12_readPerson 220 = .ok (.getfield 37, 3) := by decide +kernel
theorem dX12_readPerson_223 : decode cX12_readPerson 223 = .ok (.bipush 11, 2) := by decide +kernel
theorem dX12_readPerson_225 : decode cX12_readPerson 225 = .ok (.iload_n 3, 1) := by decide +kernel
theorem dX12_readPerson_226 : decode cX12_readPerson 226 = .ok (.iadd, 1) := by decide +kernel
theorem dX12_readPerson_227 : decode cX12_readPerson 227 = .ok (.iaload, 1) := by decide +kernel
theorem dX12_readPerson_228 : decode cX12_readPerson 228 = .ok (.aload_n 0, 1) := by decide +kernel
theorem dX12_readPerson_229 : decode cX12_readPerson 229 = .ok (.getfield 37, 3) := by decide +kernel
theorem dX12_readPerson_232 : decode cX12_readPerson 232 = .ok (.bipush 11, 2) := by decide +kernel
theorem dX12_readPerson_234 : decode cX12_readPerson 234 = .ok (.iload_n 1, 1) := by decide +kernel
theorem dX12_readPerson_235 : decode cX12_readPerson 235 = .ok (.iadd, 1) := by decide +kernel
theorem dX12_readPerson_236 : decode cX12_readPerson 236 = .ok (.iaload, 1) := by decide +kernel
theorem dX12_readPerson_237 : decode cX12_readPerson 237 = .ok (.if_icmp .ne 14, 3) := by decide +kernel
theorem dX12_readPerson_240 : decode cX12_readPerson 240 = .ok (.aload_n 0, 1) := by decide +kernel
theorem dX12_readPerson_241 : decode cX12_readPerson 241 = .ok (.getfield 37, 3) := by decide +kernel
theorem dX12_readPerson_244 : decode cX12_readPerson 244 = .ok (.bipush 36, 2) := by decide +kernel
theorem dX12_readPerson_246 : decode cX12_readPerson 246 = .ok (.iload_n 1, 1) := by decide +kernel
theorem dX12_readPerson_247 : decode cX12_readPerson 247 = .ok (.iload_n 3, 1) := by decide +kernel
theorem dX12_readPerson_248 : decode cX12_readPerson 248 = .ok (.invokestatic 255, 3) := by decide +kernel
theorem dX12_readPerson_251 : decode cX12_readPerson 251 = .ok (.iinc 3 1, 3) := by decide +kernel
theorem dX12_readPerson_254 : decode cX12_readPerson 254 = .ok (.goto (-52), 3) := by decide +kernel
theorem dX12_readPerson_257 : decode cX12_readPerson 257 = .ok (.aload_n 0, 1) := by decide +kernel
theorem dX12_readPerson_258 : decode cX12_readPerson 258 = .ok (.getfield 37, 3) := by decide +kernel
theorem dX12_readPerson_261 : decode cX12_readPerson 261 = .ok (.iconst 1, 1) := by decide +kernel
theorem dX12_readPerson_262 : decode cX12_readPerson 262 = .ok (.dup2, 1) := by decide +kernel
theorem dX12_readPerson_263 : decode cX12_readPerson 263 = .ok (.iaload, 1) := by decide +kernel
theorem dX12_readPerson_264 : decode cX12_readPerson 264 = .ok (.iconst 1, 1) := by decide +kernel
theorem dX12_readPerson_265 : decode cX12_readPerson 265 = .ok (.iadd, 1) := by decide +kernel
theorem dX12_readPerson_266 : decode cX12_readPerson 266 = .ok (.iastore, 1) := by decide +kernel
theorem dX12_readPerson_267 : decode cX12_readPerson 267 = .ok (.iconst 1, 1) := by decide +kernel
theorem dX12_readPerson_268 : decode cX12_readPerson 268 = .ok (.ireturn, 1) := by decide +kernel
theorem dX12_knowsIn_0 : decode cX12_knowsIn 0 = .ok (.aload_n 0, 1) := by decide +kernel
theorem dX12_knowsIn_1 : decode cX12_knowsIn 1 = .ok (.iload_n 1, 1) := by decide +kernel
theorem dX12_knowsIn_2 : decode cX12_knowsIn 2 = .ok (.iload_n 2, 1) := by decide +kernel
theorem dX12_knowsIn_3 : decode cX12_knowsIn 3 = .ok (.iadd, 1) := by decide +kernel
theorem dX12_knowsIn_4 : decode cX12_knowsIn 4 = .ok (.dup2, 1) := by decide +kernel
theorem dX12_knowsIn_5 : decode cX12_knowsIn 5 = .ok (.iaload, 1) := by decide +kernel
theorem dX12_knowsIn_6 : decode cX12_knowsIn 6 = .ok (.iconst 1, 1) := by decide +kernel
theorem dX12_knowsIn_7 : decode cX12_knowsIn 7 = .ok (.iload_n 3, 1) := by decide +kernel
theorem dX12_knowsIn_8 : decode cX12_knowsIn 8 = .ok (.ishl, 1) := by decide +kernel
theorem dX12_knowsIn_9 : decode cX12_knowsIn 9 = .ok (.ior, 1) := by decide +kernel
theorem dX12_knowsIn_10 : decode cX12_knowsIn 10 = .ok (.iastore, 1) := by decide +kernel
theorem dX12_knowsIn_11 : decode cX12_knowsIn 11 = .ok (.aload_n 0, 1) := by decide +kernel
theorem dX12_knowsIn_12 : decode cX12_knowsIn 12 = .ok (.iload_n 1, 1) := by decide +kernel
theorem dX12_knowsIn_13 : decode cX12_knowsIn 13 = .ok (.iload_n 3, 1) := by decide +kernel
theorem dX12_knowsIn_14 : decode cX12_knowsIn 14 = .ok (.iadd, 1) := by decide +kernel
theorem dX12_knowsIn_15 : decode cX12_knowsIn 15 = .ok (.dup2, 1) := by decide +kernel
theorem dX12_knowsIn_16 : decode cX12_knowsIn 16 = .ok (.iaload, 1) := by decide +kernel
theorem dX12_knowsIn_17 : decode cX12_knowsIn 17 = .ok (.iconst 1, 1) := by decide +kernel
theorem dX12_knowsIn_18 : decode cX12_knowsIn 18 = .ok (.iload_n 2, 1) := by decide +kernel
theorem dX12_knowsIn_19 : decode cX12_knowsIn 19 = .ok (.ishl, 1) := by decide +kernel
theorem dX12_knowsIn_20 : decode cX12_knowsIn 20 = .ok (.ior, 1) := by decide +kernel
theorem dX12_knowsIn_21 : decode cX12_knowsIn 21 = .ok (.iastore, 1) := by decide +kernel
theorem dX12_knowsIn_22 : decode cX12_knowsIn 22 = .ok (.return_, 1) := by decide +kernel
theorem dX12_readKnows_0 : decode cX12_readKnows 0 = .ok (.aload_n 0, 1) := by decide +kernel
theorem dX12_readKnows_1 : decode cX12_readKnows 1 = .ok (.invokevirtual 190, 3) := by decide +kernel
theorem dX12_readKnows_4 : decode cX12_readKnows 4 = .ok (.aload_n 0, 1) := by decide +kernel
theorem dX12_readKnows_5 : decode cX12_readKnows 5 = .ok (.bipush 20, 2) := by decide +kernel
theorem dX12_readKnows_7 : decode cX12_readKnows 7 = .ok (.aload_n 0, 1) := by decide +kernel
theorem dX12_readKnows_8 : decode cX12_readKnows 8 = .ok (.getfield 37, 3) := by decide +kernel
theorem dX12_readKnows_11 : decode cX12_readKnows 11 = .ok (.iconst 1, 1) := by decide +kernel
theorem dX12_readKnows_12 : decode cX12_readKnows 12 = .ok (.iaload, 1) := by decide +kernel
theorem dX12_readKnows_13 : decode cX12_readKnows 13 = .ok (.invokevirtual 249, 3) := by decide +kernel
theorem dX12_readKnows_16 : decode cX12_readKnows 16 = .ok (.ifCond .ne 5, 3) := by decide +kernel
theorem dX12_readKnows_19 : decode cX12_readKnows 19 = .ok (.iconst 0, 1) := by decide +kernel
theorem dX12_readKnows_20 : decode cX12_readKnows 20 = .ok (.ireturn, 1) := by decide +kernel
theorem dX12_readKnows_21 : decode cX12_readKnows 21 = .ok (.aload_n 0, 1) := by decide +kernel
theorem dX12_readKnows_22 : decode cX12_readKnows 22 = .ok (.getfield 197, 3) := by decide +kernel
theorem dX12_readKnows_25 : decode cX12_readKnows 25 = .ok (.istore_n 1, 1) := by decide +kernel
theorem dX12_readKnows_26 : decode cX12_readKnows 26 = .ok (.aload_n 0, 1) := by decide +kernel
theorem dX12_readKnows_27 : decode cX12_readKnows 27 = .ok (.bipush 20, 2) := by decide +kernel
theorem dX12_readKnows_29 : decode cX12_readKnows 29 = .ok (.aload_n 0, 1) := by decide +kernel
theorem dX12_readKnows_30 : decode cX12_readKnows 30 = .ok (.getfield 37, 3) := by decide +kernel
theorem dX12_readKnows_33 : decode cX12_readKnows 33 = .ok (.iconst 1, 1) := by decide +kernel
theorem dX12_readKnows_34 : decode cX12_readKnows 34 = .ok (.iaload, 1) := by decide +kernel
theorem dX12_readKnows_35 : decode cX12_readKnows 35 = .ok (.invokevirtual 212, 3) := by decide +kernel
theorem dX12_readKnows_38 : decode cX12_readKnows 38 = .ok (.ifCond .ne 5, 3) := by decide +kernel
theorem dX12_readKnows_41 : decode cX12_readKnows 41 = .ok (.iconst 0, 1) := by decide +kernel
theorem dX12_readKnows_42 : decode cX12_readKnows 42 = .ok (.ireturn, 1) := by decide +kernel
theorem dX12_readKnows_43 : decode cX12_readKnows 43 = .ok (.aload_n 0, 1) := by decide +kernel
theorem dX12_readKnows_44 : decode cX12_readKnows 44 = .ok (.getfield 197, 3) := by decide +kernel
theorem dX12_readKnows_47 : decode cX12_readKnows 47 = .ok (.iload_n 1, 1) := by decide +kernel
theorem dX12_readKnows_48 : decode cX12_readKnows 48 = .ok (.if_icmp .eq 22, 3) := by decide +kernel
theorem dX12_readKnows_51 : decode cX12_readKnows 51 = .ok (.aload_n 0, 1) := by decide +kernel
theorem dX12_readKnows_52 : decode cX12_readKnows 52 = .ok (.getfield 37, 3) := by decide +kernel
theorem dX12_readKnows_55 : decode cX12_readKnows 55 = .ok (.bipush 36, 2) := by decide +kernel
theorem dX12_readKnows_57 : decode cX12_readKnows 57 = .ok (.iload_n 1, 1) := by decide +kernel
theorem dX12_readKnows_58 : decode cX12_readKnows 58 = .ok (.iadd, 1) := by decide +kernel
theorem dX12_readKnows_59 : decode cX12_readKnows 59 = .ok (.iaload, 1) := by decide +kernel
theorem dX12_readKnows_60 : decode cX12_readKnows 60 = .ok (.aload_n 0, 1) := by decide +kernel
theorem dX12_readKnows_61 : decode cX12_readKnows 61 = .ok (.getfield 197, 3) := by decide +kernel
theorem dX12_readKnows_64 : decode cX12_readKnows 64 = .ok (.invokestatic 218, 3) := by decide +kernel
theorem dX12_readKnows_67 : decode cX12_readKnows 67 = .ok (.ifCond .eq 9, 3) := by decide +kernel
theorem dX12_readKnows_70 : decode cX12_readKnows 70 = .ok (.aload_n 0, 1) := by decide +kernel
theorem dX12_readKnows_71 : decode cX12_readKnows 71 = .ok (.iconst 3, 1) := by decide +kernel
theorem dX12_readKnows_72 : decode cX12_readKnows 72 = .ok (.invokevirtual 187, 3) := by decide +kernel
theorem dX12_readKnows_75 : decode cX12_readKnows 75 = .ok (.ireturn, 1) := by decide +kernel
theorem dX12_readKnows_76 : decode cX12_readKnows 76 = .ok (.aload_n 0, 1) := by decide +kernel
theorem dX12_readKnows_77 : decode cX12_readKnows 77 = .ok (.getfield 37, 3) := by decide +kernel
theorem dX12_readKnows_80 : decode cX12_readKnows 80 = .ok (.bipush 36, 2) := by decide +kernel
theorem dX12_readKnows_82 : decode cX12_readKnows 82 = .ok (.iload_n 1, 1) := by decide +kernel
theorem dX12_readKnows_83 : decode cX12_readKnows 83 = .ok (.aload_n 0, 1) := by decide +kernel
theorem dX12_readKnows_84 : decode cX12_readKnows 84 = .ok (.getfield 197, 3) := by decide +kernel
theorem dX12_readKnows_87 : decode cX12_readKnows 87 = .ok (.invokestatic 255, 3) := by decide +kernel
theorem dX12_readKnows_90 : decode cX12_readKnows 90 = .ok (.aload_n 0, 1) := by decide +kernel
theorem dX12_readKnows_91 : decode cX12_readKnows 91 = .ok (.invokevirtual 190, 3) := by decide +kernel
theorem dX12_readKnows_94 : decode cX12_readKnows 94 = .ok (.iconst 1, 1) := by decide +kernel
theorem dX12_readKnows_95 : decode cX12_readKnows 95 = .ok (.ireturn, 1) := by decide +kernel
theorem dX12_readCalls_0 : decode cX12_readCalls 0 = .ok (.aload_n 0, 1) := by decide +kernel
theorem dX12_readCalls_1 : decode cX12_readCalls 1 = .ok (.getfield 37, 3) := by decide +kernel
theorem dX12_readCalls_4 : decode cX12_readCalls 4 = .ok (.bipush 44, 2) := by decide +kernel
theorem dX12_readCalls_6 : decode cX12_readCalls 6 = .ok (.iaload, 1) := by decide +kernel
theorem dX12_readCalls_7 : decode cX12_readCalls 7 = .ok (.istore_n 1, 1) := by decide +kernel
theorem dX12_readCalls_8 : decode cX12_readCalls 8 = .ok (.iload_n 1, 1) := by decide +kernel
theorem dX12_readCalls_9 : decode cX12_readCalls 9 = .ok (.bipush 12, 2) := by decide +kernel
theorem dX12_readCalls_11 : decode cX12_readCalls 11 = .ok (.if_icmp .ne 9, 3) := by decide +kernel
theorem dX12_readCalls_14 : decode cX12_readCalls 14 = .ok (.aload_n 0, 1) := by decide +kernel
theorem dX12_readCalls_15 : decode cX12_readCalls 15 = .ok (.iconst 4, 1) := by decide +kernel
theorem dX12_readCalls_16 : decode cX12_readCalls 16 = .ok (.invokevirtual 187, 3) := by decide +kernel
theorem dX12_readCalls_19 : decode cX12_readCalls 19 = .ok (.ireturn, 1) := by decide +kernel
theorem dX12_readCalls_20 : decode cX12_readCalls 20 = .ok (.aload_n 0, 1) := by decide +kernel
theorem dX12_readCalls_21 : decode cX12_readCalls 21 = .ok (.invokevirtual 190, 3) := by decide +kernel
theorem dX12_readCalls_24 : decode cX12_readCalls 24 = .ok (.aload_n 0, 1) := by decide +kernel
theorem dX12_readCalls_25 : decode cX12_readCalls 25 = .ok (.bipush 20, 2) := by decide +kernel
theorem dX12_readCalls_27 : decode cX12_readCalls 27 = .ok (.aload_n 0, 1) := by decide +kernel
theorem dX12_readCalls_28 : decode cX12_readCalls 28 = .ok (.getfield 37, 3) := by decide +kernel
theorem dX12_readCalls_31 : decode cX12_readCalls 31 = .ok (.iconst 1, 1) := by decide +kernel
theorem dX12_readCalls_32 : decode cX12_readCalls 32 = .ok (.iaload, 1) := by decide +kernel
theorem dX12_readCalls_33 : decode cX12_readCalls 33 = .ok (.invokevirtual 249, 3) := by decide +kernel
theorem dX12_readCalls_36 : decode cX12_readCalls 36 = .ok (.ifCond .ne 5, 3) := by decide +kernel
theorem dX12_readCalls_39 : decode cX12_readCalls 39 = .ok (.iconst 0, 1) := by decide +kernel
theorem dX12_readCalls_40 : decode cX12_readCalls 40 = .ok (.ireturn, 1) := by decide +kernel
theorem dX12_readCalls_41 : decode cX12_readCalls 41 = .ok (.aload_n 0, 1) := by decide +kernel
theorem dX12_readCalls_42 : decode cX12_readCalls 42 = .ok (.getfield 197, 3) := by decide +kernel
theorem dX12_readCalls_45 : decode cX12_readCalls 45 = .ok (.istore_n 2, 1) := by decide +kernel
theorem dX12_readCalls_46 : decode cX12_readCalls 46 = .ok (.aload_n 0, 1) := by decide +kernel
theorem dX12_readCalls_47 : decode cX12_readCalls 47 = .ok (.bipush 14, 2) := by decide +kernel
theorem dX12_readCalls_49 : decode cX12_readCalls 49 = .ok (.aload_n 0, 1) := by decide +kernel
theorem dX12_readCalls_50 : decode cX12_readCalls 50 = .ok (.getfield 37, 3) := by decide +kernel
theorem dX12_readCalls_53 : decode cX12_readCalls 53 = .ok (.iconst 0, 1) := by decide +kernel
theorem dX12_readCalls_54 : decode cX12_readCalls 54 = .ok (.iaload, 1) := by decide +kernel
theorem dX12_readCalls_55 : decode cX12_readCalls 55 = .ok (.invokevirtual 212, 3) := by decide +kernel
theorem dX12_readCalls_58 : decode cX12_readCalls 58 = .ok (.ifCond .ne 5, 3) := by decide +kernel
theorem dX12_readCalls_61 : decode cX12_readCalls 61 = .ok (.iconst 0, 1) := by decide +kernel
theorem dX12_readCalls_62 : decode cX12_readCalls 62 = .ok (.ireturn, 1) := by decide +kernel
theorem dX12_readCalls_63 : decode cX12_readCalls 63 = .ok (.aload_n 0, 1) := by decide +kernel
theorem dX12_readCalls_64 : decode cX12_readCalls 64 = .ok (.getfield 37, 3) := by decide +kernel
theorem dX12_readCalls_67 : decode cX12_readCalls 67 = .ok (.bipush 11, 2) := by decide +kernel
theorem dX12_readCalls_69 : decode cX12_readCalls 69 = .ok (.iload_n 2, 1) := by decide +kernel
theorem dX12_readCalls_70 : decode cX12_readCalls 70 = .ok (.iadd, 1) := by decide +kernel
theorem dX12_readCalls_71 : decode cX12_readCalls 71 = .ok (.iaload, 1) := by decide +kernel
theorem dX12_readCalls_72 : decode cX12_readCalls 72 = .ok (.aload_n 0, 1) := by decide +kernel
theorem dX12_readCalls_73 : decode cX12_readCalls 73 = .ok (.getfield 197, 3) := by decide +kernel
theorem dX12_readCalls_76 : decode cX12_readCalls 76 = .ok (.iconst 1, 1) := by decide +kernel
theorem dX12_readCalls_77 : decode cX12_readCalls 77 = .ok (.iadd, 1) := by decide +kernel
theorem dX12_readCalls_78 : decode cX12_readCalls 78 = .ok (.if_icmp .ne 7, 3) := by decide +kernel
theorem dX12_readCalls_81 : decode cX12_readCalls 81 = .ok (.iconst 1, 1) := by decide +kernel
theorem dX12_readCalls_82 : decode cX12_readCalls 82 = .ok (.goto 4, 3) := by decide +kernel
theorem dX12_readCalls_85 : decode cX12_readCalls 85 = .ok (.iconst 0, 1) := by decide +kernel
theorem dX12_readCalls_86 : decode cX12_readCalls 86 = .ok (.istore_n 3, 1) := by decide +kernel
theorem dX12_readCalls_87 : decode cX12_readCalls 87 = .ok (.iconst 0, 1) := by decide +kernel
theorem dX12_readCalls_88 : decode cX12_readCalls 88 = .ok (.istore 4, 2) := by decide +kernel
theorem dX12_readCalls_90 : decode cX12_readCalls 90 = .ok (.iload 4, 2) := by decide +kernel
theorem dX12_readCalls_92 : decode cX12_readCalls 92 = .ok (.iload_n 1, 1) := by decide +kernel
theorem dX12_readCalls_93 : decode cX12_readCalls 93 = .ok (.if_icmp .ge 50, 3) := by decide +kernel
theorem dX12_readCalls_96 : decode cX12_readCalls 96 = .ok (.iload_n 3, 1) := by decide +kernel
theorem dX12_readCalls_97 : decode cX12_readCalls 97 = .ok (.ifCond .ne 34, 3) := by decide +kernel
theorem dX12_readCalls_100 : decode cX12_readCalls 100 = .ok (.aload_n 0, 1) := by decide +kernel
theorem dX12_readCalls_101 : decode cX12_readCalls 101 = .ok (.getfield 37, 3) := by decide +kernel
theorem dX12_readCalls_104 : decode cX12_readCalls 104 = .ok (.bipush 45, 2) := by decide +kernel
theorem dX12_readCalls_106 : decode cX12_readCalls 106 = .ok (.iload 4, 2) := by decide +kernel
theorem dX12_readCalls_108 : decode cX12_readCalls 108 = .ok (.iadd, 1) := by decide +kernel
theorem dX12_readCalls_109 : decode cX12_readCalls 109 = .ok (.iaload, 1) := by decide +kernel
theorem dX12_readCalls_110 : decode cX12_readCalls 110 = .ok (.iload_n 2, 1) := by decide +kernel
theorem dX12_readCalls_111 : decode cX12_readCalls 111 = .ok (.if_icmp .ne 24, 3) := by decide +kernel
theorem dX12_readCalls_114 : decode cX12_readCalls 114 = .ok (.aload_n 0, 1) := by decide +kernel
theorem dX12_readCalls_115 : decode cX12_readCalls 115 = .ok (.getfield 37, 3) := by decide +kernel
theorem dX12_readCalls_118 : decode cX12_readCalls 118 = .ok (.bipush 57, 2) := by decide +kernel
theorem dX12_readCalls_120 : decode cX12_readCalls 120 = .ok (.iload 4, 2) := by decide +kernel
theorem dX12_readCalls_122 : decode cX12_readCalls 122 = .ok (.iadd, 1) := by decide +kernel
theorem dX12_readCalls_123 : decode cX12_readCalls 123 = .ok (.iaload, 1) := by decide +kernel
theorem dX12_readCalls_124 : decode cX12_readCalls 124 = .ok (.aload_n 0, 1) := by decide +kernel
theorem dX12_readCalls_125 : decode cX12_readCalls 125 = .ok (.getfield 197, 3) := by decide +kernel
theorem dX12_readCalls_128 : decode cX12_readCalls 128 = .ok (.if_icmp .ne 7, 3) := by decide +kernel
theorem dX12_readCalls_131 : decode cX12_readCalls 131 = .ok (.iconst 1, 1) := by decide +kernel
theorem dX12_readCalls_132 : decode cX12_readCalls 132 = .ok (.goto 4, 3) := by decide +kernel
theorem dX12_readCalls_135 : decode cX12_readCalls 135 = .ok (.iconst 0, 1) := by decide +kernel
theorem dX12_readCalls_136 : decode cX12_readCalls 136 = .ok (.istore_n 3, 1) := by decide +kernel
theorem dX12_readCalls_137 : decode cX12_readCalls 137 = .ok (.iinc 4 1, 3) := by decide +kernel
theorem dX12_readCalls_140 : decode cX12_readCalls 140 = .ok (.goto (-50), 3) := by decide +kernel
theorem dX12_readCalls_143 : decode cX12_readCalls 143 = .ok (.iload_n 3, 1) := by decide +kernel
theorem dX12_readCalls_144 : decode cX12_readCalls 144 = .ok (.ifCond .eq 9, 3) := by decide +kernel
theorem dX12_readCalls_147 : decode cX12_readCalls 147 = .ok (.aload_n 0, 1) := by decide +kernel
theorem dX12_readCalls_148 : decode cX12_readCalls 148 = .ok (.iconst 3, 1) := by decide +kernel
theorem dX12_readCalls_149 : decode cX12_readCalls 149 = .ok (.invokevirtual 187, 3) := by decide +kernel
theorem dX12_readCalls_152 : decode cX12_readCalls 152 = .ok (.ireturn, 1) := by decide +kernel
theorem dX12_readCalls_153 : decode cX12_readCalls 153 = .ok (.aload_n 0, 1) := by decide +kernel
theorem dX12_readCalls_154 : decode cX12_readCalls 154 = .ok (.getfield 37, 3) := by decide +kernel
theorem dX12_readCalls_157 : decode cX12_readCalls 157 = .ok (.bipush 45, 2) := by decide +kernel
theorem dX12_readCalls_159 : decode cX12_readCalls 159 = .ok (.iload_n 1, 1) := by decide +kernel
theorem dX12_readCalls_160 : decode cX12_readCalls 160 = .ok (.iadd, 1) := by decide +kernel
theorem dX12_readCalls_161 : decode cX12_readCalls 161 = .ok (.iload_n 2, 1) := by decide +kernel
theorem dX12_readCalls_162 : decode cX12_readCalls 162 = .ok (.iastore, 1) := by decide +kernel
theorem dX12_readCalls_163 : decode cX12_readCalls 163 = .ok (.aload_n 0, 1) := by decide +kernel
theorem dX12_readCalls_164 : decode cX12_readCalls 164 = .ok (.getfield 37, 3) := by decide +kernel
theorem dX12_readCalls_167 : decode cX12_readCalls 167 = .ok (.bipush 57, 2) := by decide +kernel
theorem dX12_readCalls_169 : decode cX12_readCalls 169 = .ok (.iload_n 1, 1) := by decide +kernel
theorem dX12_readCalls_170 : decode cX12_readCalls 170 = .ok (.iadd, 1) := by decide +kernel
theorem dX12_readCalls_171 : decode cX12_readCalls 171 = .ok (.aload_n 0, 1) := by decide +kernel
theorem dX12_readCalls_172 : decode cX12_readCalls 172 = .ok (.getfield 197, 3) := by decide +kernel
theorem dX12_readCalls_175 : decode cX12_readCalls 175 = .ok (.iastore, 1) := by decide +kernel
theorem dX12_readCalls_176 : decode cX12_readCalls 176 = .ok (.aload_n 0, 1) := by decide +kernel
theorem dX12_readCalls_177 : decode cX12_readCalls 177 = .ok (.getfield 37, 3) := by decide +kernel
theorem dX12_readCalls_180 : decode cX12_readCalls 180 = .ok (.bipush 44, 2) := by decide +kernel
theorem dX12_readCalls_182 : decode cX12_readCalls 182 = .ok (.dup2, 1) := by decide +kernel
theorem dX12_readCalls_183 : decode cX12_readCalls 183 = .ok (.iaload, 1) := by decide +kernel
theorem dX12_readCalls_184 : decode cX12_readCalls 184 = .ok (.iconst 1, 1) := by decide +kernel
theorem dX12_readCalls_185 : decode cX12_readCalls 185 = .ok (.iadd, 1) := by decide +kernel
theorem dX12_readCalls_186 : decode cX12_readCalls 186 = .ok (.iastore, 1) := by decide +kernel
theorem dX12_readCalls_187 : decode cX12_readCalls 187 = .ok (.aload_n 0, 1) := by decide +kernel
theorem dX12_readCalls_188 : decode cX12_readCalls 188 = .ok (.invokevirtual 190, 3) := by decide +kernel
theorem dX12_readCalls_191 : decode cX12_readCalls 191 = .ok (.iconst 1, 1) := by decide +kernel
theorem dX12_readCalls_192 : decode cX12_readCalls 192 = .ok (.ireturn, 1) := by decide +kernel
theorem dX12_quarter_0 : decode cX12_quarter 0 = .ok (.aload_n 0, 1) := by decide +kernel
theorem dX12_quarter_1 : decode cX12_quarter 1 = .ok (.iconst 0, 1) := by decide +kernel
theorem dX12_quarter_2 : decode cX12_quarter 2 = .ok (.putfield 1, 3) := by decide +kernel
theorem dX12_quarter_5 : decode cX12_quarter 5 = .ok (.aload_n 0, 1) := by decide +kernel
theorem dX12_quarter_6 : decode cX12_quarter 6 = .ok (.sipush 900, 3) := by decide +kernel
theorem dX12_quarter_9 : decode cX12_quarter 9 = .ok (.invokevirtual 259, 3) := by decide +kernel
theorem dX12_quarter_12 : decode cX12_quarter 12 = .ok (.aload_n 0, 1) := by decide +kernel
theorem dX12_quarter_13 : decode cX12_quarter 13 = .ok (.iconst 0, 1) := by decide +kernel
theorem dX12_quarter_14 : decode cX12_quarter 14 = .ok (.putfield 178, 3) := by decide +kernel
theorem dX12_quarter_17 : decode cX12_quarter 17 = .ok (.aload_n 0, 1) := by decide +kernel
theorem dX12_quarter_18 : decode cX12_quarter 18 = .ok (.iconst 0, 1) := by decide +kernel
theorem dX12_quarter_19 : decode cX12_quarter 19 = .ok (.putfield 262, 3) := by decide +kernel
theorem dX12_quarter_22 : decode cX12_quarter 22 = .ok (.aload_n 0, 1) := by decide +kernel
theorem dX12_quarter_23 : decode cX12_quarter 23 = .ok (.iconst 0, 1) := by decide +kernel
theorem dX12_quarter_24 : decode cX12_quarter 24 = .ok (.putfield 215, 3) := by decide +kernel
theorem dX12_quarter_27 : decode cX12_quarter 27 = .ok (.aload_n 0, 1) := by decide +kernel
theorem dX12_quarter_28 : decode cX12_quarter 28 = .ok (.invokevirtual 148, 3) := by decide +kernel
theorem dX12_quarter_31 : decode cX12_quarter 31 = .ok (.aload_n 0, 1) := by decide +kernel
theorem dX12_quarter_32 : decode cX12_quarter 32 = .ok (.invokevirtual 190, 3) := by decide +kernel
theorem dX12_quarter_35 : decode cX12_quarter 35 = .ok (.aload_n 0, 1) := by decide +kernel
theorem dX12_quarter_36 : decode cX12_quarter 36 = .ok (.getfield 161, 3) := by decide +kernel
theorem dX12_quarter_39 : decode cX12_quarter 39 = .ok (.ifCond .eq 39, 3) := by decide +kernel
theorem dX12_quarter_42 : decode cX12_quarter 42 = .ok (.aload_n 0, 1) := by decide +kernel
theorem dX12_quarter_43 : decode cX12_quarter 43 = .ok (.invokevirtual 265, 3) := by decide +kernel
theorem dX12_quarter_46 : decode cX12_quarter 46 = .ok (.ifCond .eq 12, 3) := by decide +kernel
theorem dX12_quarter_49 : decode cX12_quarter 49 = .ok (.aload_n 0, 1) := by decide +kernel
theorem dX12_quarter_50 : decode cX12_quarter 50 = .ok (.bipush 59, 2) := by decide +kernel
theorem dX12_quarter_52 : decode cX12_quarter 52 = .ok (.invokevirtual 268, 3) := by decide +kernel
theorem dX12_quarter_55 : decode cX12_quarter 55 = .ok (.ifCond .ne 10, 3) := by decide +kernel
theorem dX12_quarter_58 : decode cX12_quarter 58 = .ok (.iconst (-1), 1) := by decide +kernel
theorem dX12_quarter_59 : decode cX12_quarter 59 = .ok (.aload_n 0, 1) := by decide +kernel
theorem dX12_quarter_60 : decode cX12_quarter 60 = .ok (.getfield 181, 3) := by decide +kernel
theorem dX12_quarter_63 : decode cX12_quarter 63 = .ok (.isub, 1) := by decide +kernel
theorem dX12_quarter_64 : decode cX12_quarter 64 = .ok (.ireturn, 1) := by decide +kernel
theorem dX12_quarter_65 : decode cX12_quarter 65 = .ok (.aload_n 0, 1) := by decide +kernel
theorem dX12_quarter_66 : decode cX12_quarter 66 = .ok (.dup, 1) := by decide +kernel
theorem dX12_quarter_67 : decode cX12_quarter 67 = .ok (.getfield 262, 3) := by decide +kernel
theorem dX12_quarter_70 : decode cX12_quarter 70 = .ok (.iconst 1, 1) := by decide +kernel
theorem dX12_quarter_71 : decode cX12_quarter 71 = .ok (.iadd, 1) := by decide +kernel
theorem dX12_quarter_72 : decode cX12_quarter 72 = .ok (.putfield 262, 3) := by decide +kernel
theorem dX12_quarter_75 : decode cX12_quarter 75 = .ok (.goto (-40), 3) := by decide +kernel
theorem dX12_quarter_78 : decode cX12_quarter 78 = .ok (.iconst 0, 1) := by decide +kernel
theorem dX12_quarter_79 : decode cX12_quarter 79 = .ok (.istore_n 1, 1) := by decide +kernel
theorem dX12_quarter_80 : decode cX12_quarter 80 = .ok (.iload_n 1, 1) := by decide +kernel
theorem dX12_quarter_81 : decode cX12_quarter 81 = .ok (.sipush 342, 3) := by decide +kernel
theorem dX12_quarter_84 : decode cX12_quarter 84 = .ok (.if_icmp .ge 31, 3) := by decide +kernel
theorem dX12_quarter_87 : decode cX12_quarter 87 = .ok (.aload_n 0, 1) := by decide +kernel
theorem dX12_quarter_88 : decode cX12_quarter 88 = .ok (.getfield 33, 3) := by decide +kernel
theorem dX12_quarter_91 : decode cX12_quarter 91 = .ok (.iload_n 1, 1) := by decide +kernel
theorem dX12_quarter_92 : decode cX12_quarter 92 = .ok (.iload_n 1, 1) := by decide +kernel
theorem dX12_quarter_93 : decode cX12_quarter 93 = .ok (.bipush 69, 2) := by decide +kernel
theorem dX12_quarter_95 : decode cX12_quarter 95 = .ok (.if_icmp .ge 12, 3) := by decide +kernel
theorem dX12_quarter_98 : decode cX12_quarter 98 = .ok (.aload_n 0, 1) := by decide +kernel
theorem dX12_quarter_99 : decode cX12_quarter 99 = .ok (.getfield 37, 3) := by decide +kernel
theorem dX12_quarter_102 : decode cX12_quarter 102 = .ok (.iload_n 1, 1) := by decide +kernel
theorem dX12_quarter_103 : decode cX12_quarter 103 = .ok (.iaload, 1) := by decide +kernel
theorem dX12_quarter_104 : decode cX12_quarter 104 = .ok (.goto 4, 3) := by decide +kernel
theorem dX12_quarter_107 : decode cX12_quarter 107 = .ok (.iconst 0, 1) := by decide +kernel
theorem dX12_quarter_108 : decode cX12_quarter 108 = .ok (.iastore, 1) := by decide +kernel
theorem dX12_quarter_109 : decode cX12_quarter 109 = .ok (.iinc 1 1, 3) := by decide +kernel
theorem dX12_quarter_112 : decode cX12_quarter 112 = .ok (.goto (-32), 3) := by decide +kernel
theorem dX12_quarter_115 : decode cX12_quarter 115 = .ok (.iconst 0, 1) := by decide +kernel
theorem dX12_quarter_116 : decode cX12_quarter 116 = .ok (.istore_n 1, 1) := by decide +kernel
theorem dX12_quarter_117 : decode cX12_quarter 117 = .ok (.iload_n 1, 1) := by decide +kernel
theorem dX12_quarter_118 : decode cX12_quarter 118 = .ok (.bipush 14, 2) := by decide +kernel
theorem dX12_quarter_120 : decode cX12_quarter 120 = .ok (.if_icmp .ge 24, 3) := by decide +kernel
theorem dX12_quarter_123 : decode cX12_quarter 123 = .ok (.aload_n 0, 1) := by decide +kernel
theorem dX12_quarter_124 : decode cX12_quarter 124 = .ok (.getfield 43, 3) := by decide +kernel
theorem dX12_quarter_127 : decode cX12_quarter 127 = .ok (.iload_n 1, 1) := by decide +kernel
theorem dX12_quarter_128 : decode cX12_quarter 128 = .ok (.aload_n 0, 1) := by decide +kernel
theorem dX12_quarter_129 : decode cX12_quarter 129 = .ok (.getfield 43, 3) := by decide +kernel
theorem dX12_quarter_132 : decode cX12_quarter 132 = .ok (.bipush 14, 2) := by decide +kernel
theorem dX12_quarter_134 : decode cX12_quarter 134 = .ok (.iload_n 1, 1) := by decide +kernel
theorem dX12_quarter_135 : decode cX12_quarter 135 = .ok (.iadd, 1) := by decide +kernel
theorem dX12_quarter_136 : decode cX12_quarter 136 = .ok (.laload, 1) := by decide +kernel
theorem dX12_quarter_137 : decode cX12_quarter 137 = .ok (.lastore, 1) := by decide +kernel
theorem dX12_quarter_138 : decode cX12_quarter 138 = .ok (.iinc 1 1, 3) := by decide +kernel
theorem dX12_quarter_141 : decode cX12_quarter 141 = .ok (.goto (-24), 3) := by decide +kernel
theorem dX12_quarter_144 : decode cX12_quarter 144 = .ok (.aload_n 0, 1) := by decide +kernel
theorem dX12_quarter_145 : decode cX12_quarter 145 = .ok (.getfield 33, 3) := by decide +kernel
theorem dX12_quarter_148 : decode cX12_quarter 148 = .ok (.bipush 72, 2) := by decide +kernel
theorem dX12_quarter_150 : decode cX12_quarter 150 = .ok (.aload_n 0, 1) := by decide +kernel
theorem dX12_quarter_151 : decode cX12_quarter 151 = .ok (.getfield 33, 3) := by decide +kernel
theorem dX12_quarter_154 : decode cX12_quarter 154 = .ok (.bipush 44, 2) := by decide +kernel
theorem dX12_quarter_156 : decode cX12_quarter 156 = .ok (.iaload, 1) := by decide +kernel
theorem dX12_quarter_157 : decode cX12_quarter 157 = .ok (.iastore, 1) := by decide +kernel
theorem dX12_quarter_158 : decode cX12_quarter 158 = .ok (.iconst 0, 1) := by decide +kernel
theorem dX12_quarter_159 : decode cX12_quarter 159 = .ok (.istore_n 1, 1) := by decide +kernel
theorem dX12_quarter_160 : decode cX12_quarter 160 = .ok (.iload_n 1, 1) := by decide +kernel
theorem dX12_quarter_161 : decode cX12_quarter 161 = .ok (.bipush 8, 2) := by decide +kernel
theorem dX12_quarter_163 : decode cX12_quarter 163 = .ok (.if_icmp .ge 63, 3) := by decide +kernel
theorem dX12_quarter_166 : decode cX12_quarter 166 = .ok (.aload_n 0, 1) := by decide +kernel
theorem dX12_quarter_167 : decode cX12_quarter 167 = .ok (.getfield 33, 3) := by decide +kernel
theorem dX12_quarter_170 : decode cX12_quarter 170 = .ok (.bipush 81, 2) := by decide +kernel
theorem dX12_quarter_172 : decode cX12_quarter 172 = .ok (.iload_n 1, 1) := by decide +kernel
theorem dX12_quarter_173 : decode cX12_quarter 173 = .ok (.iadd, 1) := by decide +kernel
theorem dX12_quarter_174 : decode cX12_quarter 174 = .ok (.aload_n 0, 1) := by decide +kernel
theorem dX12_quarter_175 : decode cX12_quarter 175 = .ok (.getfield 33, 3) := by decide +kernel
theorem dX12_quarter_178 : decode cX12_quarter 178 = .ok (.bipush 19, 2) := by decide +kernel
theorem dX12_quarter_180 : decode cX12_quarter 180 = .ok (.iload_n 1, 1) := by decide +kernel
theorem dX12_quarter_181 : decode cX12_quarter 181 = .ok (.iadd, 1) := by decide +kernel
theorem dX12_quarter_182 : decode cX12_quarter 182 = .ok (.iaload, 1) := by decide +kernel
theorem dX12_quarter_183 : decode cX12_quarter 183 = .ok (.iastore, 1) := by decide +kernel
theorem dX12_quarter_184 : decode cX12_quarter 184 = .ok (.aload_n 0, 1) := by decide +kernel
theorem dX12_quarter_185 : decode cX12_quarter 185 = .ok (.getfield 33, 3) := by decide +kernel
theorem dX12_quarter_188 : decode cX12_quarter 188 = .ok (.bipush 89, 2) := by decide +kernel
theorem dX12_quarter_190 : decode cX12_quarter 190 = .ok (.iload_n 1, 1) := by decide +kernel
theorem dX12_quarter_191 : decode cX12_quarter 191 = .ok (.iadd, 1) := by decide +kernel
theorem dX12_quarter_192 : decode cX12_quarter 192 = .ok (.aload_n 0, 1) := by decide +kernel
theorem dX12_quarter_193 : decode cX12_quarter 193 = .ok (.getfield 33, 3) := by decide +kernel
theorem dX12_quarter_196 : decode cX12_quarter 196 = .ok (.bipush 27, 2) := by decide +kernel
theorem dX12_quarter_198 : decode cX12_quarter 198 = .ok (.iload_n 1, 1) := by decide +kernel
theorem dX12_quarter_199 : decode cX12_quarter 199 = .ok (.iadd, 1) := by decide +kernel
theorem dX12_quarter_200 : decode cX12_quarter 200 = .ok (.iaload, 1) := by decide +kernel
theorem dX12_quarter_201 : decode cX12_quarter 201 = .ok (.iastore, 1) := by decide +kernel
theorem dX12_quarter_202 : decode cX12_quarter 202 = .ok (.aload_n 0, 1) := by decide +kernel
theorem dX12_quarter_203 : decode cX12_quarter 203 = .ok (.getfield 33, 3) := by decide +kernel
theorem dX12_quarter_206 : decode cX12_quarter 206 = .ok (.bipush 113, 2) := by decide +kernel
theorem dX12_quarter_208 : decode cX12_quarter 208 = .ok (.iload_n 1, 1) := by decide +kernel
theorem dX12_quarter_209 : decode cX12_quarter 209 = .ok (.iadd, 1) := by decide +kernel
theorem dX12_quarter_210 : decode cX12_quarter 210 = .ok (.aload_n 0, 1) := by decide +kernel
theorem dX12_quarter_211 : decode cX12_quarter 211 = .ok (.getfield 33, 3) := by decide +kernel
theorem dX12_quarter_214 : decode cX12_quarter 214 = .ok (.bipush 36, 2) := by decide +kernel
theorem dX12_quarter_216 : decode cX12_quarter 216 = .ok (.iload_n 1, 1) := by decide +kernel
theorem dX12_quarter_217 : decode cX12_quarter 217 = .ok (.iadd, 1) := by decide +kernel
theorem dX12_quarter_218 : decode cX12_quarter 218 = .ok (.iaload, 1) := by decide +kernel
theorem dX12_quarter_219 : decode cX12_quarter 219 = .ok (.iastore, 1) := by decide +kernel
theorem dX12_quarter_220 : decode cX12_quarter 220 = .ok (.iinc 1 1, 3) := by decide +kernel
theorem dX12_quarter_223 : decode cX12_quarter 223 = .ok (.goto (-63), 3) := by decide +kernel
theorem dX12_quarter_226 : decode cX12_quarter 226 = .ok (.iconst 0, 1) := by decide +kernel
theorem dX12_quarter_227 : decode cX12_quarter 227 = .ok (.istore_n 1, 1) := by decide +kernel
theorem dX12_quarter_228 : decode cX12_quarter 228 = .ok (.iload_n 1, 1) := by decide +kernel
theorem dX12_quarter_229 : decode cX12_quarter 229 = .ok (.bipush 12, 2) := by decide +kernel
theorem dX12_quarter_231 : decode cX12_quarter 231 = .ok (.if_icmp .ge 47, 3) := by decide +kernel
theorem dX12_quarter_234 : decode cX12_quarter 234 = .ok (.aload_n 0, 1) := by decide +kernel
theorem dX12_quarter_235 : decode cX12_quarter 235 = .ok (.getfield 33, 3) := by decide +kernel
theorem dX12_quarter_238 : decode cX12_quarter 238 = .ok (.sipush 137, 3) := by decide +kernel
theorem dX12_quarter_241 : decode cX12_quarter 241 = .ok (.iload_n 1, 1) := by decide +kernel
theorem dX12_quarter_242 : decode cX12_quarter 242 = .ok (.iadd, 1) := by decide +kernel
theorem dX12_quarter_243 : decode cX12_quarter 243 = .ok (.aload_n 0, 1) := by decide +kernel
theorem dX12_quarter_244 : decode cX12_quarter 244 = .ok (.getfield 33, 3) := by decide +kernel
theorem dX12_quarter_247 : decode cX12_quarter 247 = .ok (.bipush 45, 2) := by decide +kernel
theorem dX12_quarter_249 : decode cX12_quarter 249 = .ok (.iload_n 1, 1) := by decide +kernel
theorem dX12_quarter_250 : decode cX12_quarter 250 = .ok (.iadd, 1) := by decide +kernel
theorem dX12_quarter_251 : decode cX12_quarter 251 = .ok (.iaload, 1) := by decide +kernel
theorem dX12_quarter_252 : decode cX12_quarter 252 = .ok (.iastore, 1) := by decide +kernel
theorem dX12_quarter_253 : decode cX12_quarter 253 = .ok (.aload_n 0, 1) := by decide +kernel
theorem dX12_quarter_254 : decode cX12_quarter 254 = .ok (.getfield 33, 3) := by decide +kernel
theorem dX12_quarter_257 : decode cX12_quarter 257 = .ok (.sipush 149, 3) := by decide +kernel
theorem dX12_quarter_260 : decode cX12_quarter 260 = .ok (.iload_n 1, 1) := by decide +kernel
theorem dX12_quarter_261 : decode cX12_quarter 261 = .ok (.iadd, 1) := by decide +kernel
theorem dX12_quarter_262 : decode cX12_quarter 262 = .ok (.aload_n 0, 1) := by decide +kernel
theorem dX12_quarter_263 : decode cX12_quarter 263 = .ok (.getfield 33, 3) := by decide +kernel
theorem dX12_quarter_266 : decode cX12_quarter 266 = .ok (.bipush 57, 2) := by decide +kernel
theorem dX12_quarter_268 : decode cX12_quarter 268 = .ok (.iload_n 1, 1) := by decide +kernel
theorem dX12_quarter_269 : decode cX12_quarter 269 = .ok (.iadd, 1) := by decide +kernel
theorem dX12_quarter_270 : decode cX12_quarter 270 = .ok (.iaload, 1) := by decide +kernel
theorem dX12_quarter_271 : decode cX12_quarter 271 = .ok (.iastore, 1) := by decide +kernel
theorem dX12_quarter_272 : decode cX12_quarter 272 = .ok (.iinc 1 1, 3) := by decide +kernel
theorem dX12_quarter_275 : decode cX12_quarter 275 = .ok (.goto (-47), 3) := by decide +kernel
theorem dX12_quarter_278 : decode cX12_quarter 278 = .ok (.aload_n 0, 1) := by decide +kernel
theorem dX12_quarter_279 : decode cX12_quarter 279 = .ok (.iconst 0, 1) := by decide +kernel
theorem dX12_quarter_280 : decode cX12_quarter 280 = .ok (.putfield 271, 3) := by decide +kernel
theorem dX12_quarter_283 : decode cX12_quarter 283 = .ok (.aload_n 0, 1) := by decide +kernel
theorem dX12_quarter_284 : decode cX12_quarter 284 = .ok (.getfield 262, 3) := by decide +kernel
theorem dX12_quarter_287 : decode cX12_quarter 287 = .ok (.ireturn, 1) := by decide +kernel
theorem dX12_fault_0 : decode cX12_fault 0 = .ok (.aload_n 0, 1) := by decide +kernel
theorem dX12_fault_1 : decode cX12_fault 1 = .ok (.iconst 0, 1) := by decide +kernel
theorem dX12_fault_2 : decode cX12_fault 2 = .ok (.putfield 1, 3) := by decide +kernel
theorem dX12_fault_5 : decode cX12_fault 5 = .ok (.aload_n 0, 1) := by decide +kernel
theorem dX12_fault_6 : decode cX12_fault 6 = .ok (.getfield 178, 3) := by decide +kernel
theorem dX12_fault_9 : decode cX12_fault 9 = .ok (.ireturn, 1) := by decide +kernel
theorem dX12_isHouse_0 : decode cX12_isHouse 0 = .ok (.iload_n 1, 1) := by decide +kernel
theorem dX12_isHouse_1 : decode cX12_isHouse 1 = .ok (.iconst 0, 1) := by decide +kernel
theorem dX12_isHouse_2 : decode cX12_isHouse 2 = .ok (.aload_n 0, 1) := by decide +kernel
theorem dX12_isHouse_3 : decode cX12_isHouse 3 = .ok (.getfield 33, 3) := by decide +kernel
theorem dX12_isHouse_6 : decode cX12_isHouse 6 = .ok (.iconst 0, 1) := by decide +kernel
theorem dX12_isHouse_7 : decode cX12_isHouse 7 = .ok (.iaload, 1) := by decide +kernel
theorem dX12_isHouse_8 : decode cX12_isHouse 8 = .ok (.iconst 1, 1) := by decide +kernel
theorem dX12_isHouse_9 : decode cX12_isHouse 9 = .ok (.isub, 1) := by decide +kernel
theorem dX12_isHouse_10 : decode cX12_isHouse 10 = .ok (.invokestatic 193, 3) := by decide +kernel
theorem dX12_isHouse_13 : decode cX12_isHouse 13 = .ok (.ireturn, 1) := by decide +kernel
theorem dX12_isPerson_0 : decode cX12_isPerson 0 = .ok (.iload_n 1, 1) := by decide +kernel
theorem dX12_isPerson_1 : decode cX12_isPerson 1 = .ok (.iconst 0, 1) := by decide +kernel
theorem dX12_isPerson_2 : decode cX12_isPerson 2 = .ok (.aload_n 0, 1) := by decide +kernel
theorem dX12_isPerson_3 : decode cX12_isPerson 3 = .ok (.getfield 33, 3) := by decide +kernel
theorem dX12_isPerson_6 : decode cX12_isPerson 6 = .ok (.iconst 1, 1) := by decide +kernel
theorem dX12_isPerson_7 : decode cX12_isPerson 7 = .ok (.iaload, 1) := by decide +kernel
theorem dX12_isPerson_8 : decode cX12_isPerson 8 = .ok (.iconst 1, 1) := by decide +kernel
theorem dX12_isPerson_9 : decode cX12_isPerson 9 = .ok (.isub, 1) := by decide +kernel
theorem dX12_isPerson_10 : decode cX12_isPerson 10 = .ok (.invokestatic 193, 3) := by decide +kernel
theorem dX12_isPerson_13 : decode cX12_isPerson 13 = .ok (.ireturn, 1) := by decide +kernel
theorem dX12_dwellers_0 : decode cX12_dwellers 0 = .ok (.iconst 0, 1) := by decide +kernel
theorem dX12_dwellers_1 : decode cX12_dwellers 1 = .ok (.istore_n 2, 1) := by decide +kernel
theorem dX12_dwellers_2 : decode cX12_dwellers 2 = .ok (.iconst 0, 1) := by decide +kernel
theorem dX12_dwellers_3 : decode cX12_dwellers 3 = .ok (.istore_n 3, 1) := by decide +kernel
theorem dX12_dwellers_4 : decode cX12_dwellers 4 = .ok (.iload_n 3, 1) := by decide +kernel
theorem dX12_dwellers_5 : decode cX12_dwellers 5 = .ok (.aload_n 0, 1) := by decide +kernel
theorem dX12_dwellers_6 : decode cX12_dwellers 6 = .ok (.getfield 33, 3) := by decide +kernel
theorem dX12_dwellers_9 : decode cX12_dwellers 9 = .ok (.iconst 1, 1) := by decide +kernel
theorem dX12_dwellers_10 : decode cX12_dwellers 10 = .ok (.iaload, 1) := by decide +kernel
theorem dX12_dwellers_11 : decode cX12_dwellers 11 = .ok (.if_icmp .ge 34, 3) := by decide +kernel
theorem dX12_dwellers_14 : decode cX12_dwellers 14 = .ok (.iload_n 2, 1) := by decide +kernel
theorem dX12_dwellers_15 : decode cX12_dwellers 15 = .ok (.aload_n 0, 1) := by decide +kernel
theorem dX12_dwellers_16 : decode cX12_dwellers 16 = .ok (.getfield 33, 3) := by decide +kernel
theorem dX12_dwellers_19 : decode cX12_dwellers 19 = .ok (.bipush 11, 2) := by decide +kernel
theorem dX12_dwellers_21 : decode cX12_dwellers 21 = .ok (.iload_n 3, 1) := by decide +kernel
theorem dX12_dwellers_22 : decode cX12_dwellers 22 = .ok (.iadd, 1) := by decide +kernel
theorem dX12_dwellers_23 : decode cX12_dwellers 23 = .ok (.iaload, 1) := by decide +kernel
theorem dX12_dwellers_24 : decode cX12_dwellers 24 = .ok (.iload_n 1, 1) := by decide +kernel
theorem dX12_dwellers_25 : decode cX12_dwellers 25 = .ok (.iconst 1, 1) := by decide +kernel
theorem dX12_dwellers_26 : decode cX12_dwellers 26 = .ok (.iadd, 1) := by decide +kernel
theorem dX12_dwellers_27 : decode cX12_dwellers 27 = .ok (.if_icmp .ne 9, 3) := by decide +kernel
theorem dX12_dwellers_30 : decode cX12_dwellers 30 = .ok (.iconst 1, 1) := by decide +kernel
theorem dX12_dwellers_31 : decode cX12_dwellers 31 = .ok (.iload_n 3, 1) := by decide +kernel
theorem dX12_dwellers_32 : decode cX12_dwellers 32 = .ok (.ishl, 1) := by decide +kernel
theorem dX12_dwellers_33 : decode cX12_dwellers 33 = .ok (.goto 4, 3) := by decide +kernel
theorem dX12_dwellers_36 : decode cX12_dwellers 36 = .ok (.iconst 0, 1) := by decide +kernel
theorem dX12_dwellers_37 : decode cX12_dwellers 37 = .ok (.ior, 1) := by decide +kernel
theorem dX12_dwellers_38 : decode cX12_dwellers 38 = .ok (.istore_n 2, 1) := by decide +kernel
theorem dX12_dwellers_39 : decode cX12_dwellers 39 = .ok (.iinc 3 1, 3) := by decide +kernel
theorem dX12_dwellers_42 : decode cX12_dwellers 42 = .ok (.goto (-38), 3) := by decide +kernel
theorem dX12_dwellers_45 : decode cX12_dwellers 45 = .ok (.iload_n 2, 1) := by decide +kernel
theorem dX12_dwellers_46 : decode cX12_dwellers 46 = .ok (.ireturn, 1) := by decide +kernel
theorem dX12_isStranger_0 : decode cX12_isStranger 0 = .ok (.aload_n 0, 1) := by decide +kernel
theorem dX12_isStranger_1 : decode cX12_isStranger 1 = .ok (.getfield 33, 3) := by decide +kernel
theorem dX12_isStranger_4 : decode cX12_isStranger 4 = .ok (.bipush 113, 2) := by decide +kernel
theorem dX12_isStranger_6 : decode cX12_isStranger 6 = .ok (.iload_n 1, 1) := by decide +kernel
theorem dX12_isStranger_7 : decode cX12_isStranger 7 = .ok (.iadd, 1) := by decide +kernel
theorem dX12_isStranger_8 : decode cX12_isStranger 8 = .ok (.iaload, 1) := by decide +kernel
theorem dX12_isStranger_9 : decode cX12_isStranger 9 = .ok (.iconst 1, 1) := by decide +kernel
theorem dX12_isStranger_10 : decode cX12_isStranger 10 = .ok (.iload_n 1, 1) := by decide +kernel
theorem dX12_isStranger_11 : decode cX12_isStranger 11 = .ok (.ishl, 1) := by decide +kernel
theorem dX12_isStranger_12 : decode cX12_isStranger 12 = .ok (.ior, 1) := by decide +kernel
theorem dX12_isStranger_13 : decode cX12_isStranger 13 = .ok (.aload_n 0, 1) := by decide +kernel
theorem dX12_isStranger_14 : decode cX12_isStranger 14 = .ok (.iload_n 2, 1) := by decide +kernel
theorem dX12_isStranger_15 : decode cX12_isStranger 15 = .ok (.invokevirtual 274, 3) := by decide +kernel
theorem dX12_isStranger_18 : decode cX12_isStranger 18 = .ok (.iand, 1) := by decide +kernel
theorem dX12_isStranger_19 : decode cX12_isStranger 19 = .ok (.ifCond .ne 7, 3) := by decide +kernel
theorem dX12_isStranger_22 : decode cX12_isStranger 22 = .ok (.iconst 1, 1) := by decide +kernel
theorem dX12_isStranger_23 : decode cX12_isStranger 23 = .ok (.goto 4, 3) := by decide +kernel
theorem dX12_isStranger_26 : decode cX12_isStranger 26 = .ok (.iconst 0, 1) := by decide +kernel
theorem dX12_isStranger_27 : decode cX12_isStranger 27 = .ok (.ireturn, 1) := by decide +kernel
theorem dX12_strangers_0 : decode cX12_strangers 0 = .ok (.iconst 0, 1) := by decide +kernel
theorem dX12_strangers_1 : decode cX12_strangers 1 = .ok (.istore_n 2, 1) := by decide +kernel
theorem dX12_strangers_2 : decode cX12_strangers 2 = .ok (.iconst 0, 1) := by decide +kernel
theorem dX12_strangers_3 : decode cX12_strangers 3 = .ok (.istore_n 3, 1) := by decide +kernel
theorem dX12_strangers_4 : decode cX12_strangers 4 = .ok (.iload_n 3, 1) := by decide +kernel
theorem dX12_strangers_5 : decode cX12_strangers 5 = .ok (.aload_n 0, 1) := by decide +kernel
theorem dX12_strangers_6 : decode cX12_strangers 6 = .ok (.getfield 33, 3) := by decide +kernel
theorem dX12_strangers_9 : decode cX12_strangers 9 = .ok (.iconst 1, 1) := by decide +kernel
theorem dX12_strangers_10 : decode cX12_strangers 10 = .ok (.iaload, 1) := by decide +kernel
theorem dX12_strangers_11 : decode cX12_strangers 11 = .ok (.if_icmp .ge 28, 3) := by decide +kernel
theorem dX12_strangers_14 : decode cX12_strangers 14 = .ok (.iload_n 2, 1) := by decide +kernel
theorem dX12_strangers_15 : decode cX12_strangers 15 = .ok (.aload_n 0, 1) := by decide +kernel
theorem dX12_strangers_16 : decode cX12_strangers 16 = .ok (.iload_n 3, 1) := by decide +kernel
theorem dX12_strangers_17 : decode cX12_strangers 17 = .ok (.iload_n 1, 1) := by decide +kernel
theorem dX12_strangers_18 : decode cX12_strangers 18 = .ok (.invokevirtual 278, 3) := by decide +kernel
theorem dX12_strangers_21 : decode cX12_strangers 21 = .ok (.ifCond .eq 9, 3) := by decide +kernel
theorem dX12_strangers_24 : decode cX12_strangers 24 = .ok (.iconst 1, 1) := by decide +kernel
theorem dX12_strangers_25 : decode cX12_strangers 25 = .ok (.iload_n 3, 1) := by decide +kernel
theorem dX12_strangers_26 : decode cX12_strangers 26 = .ok (.ishl, 1) := by decide +kernel
theorem dX12_strangers_27 : decode cX12_strangers 27 = .ok (.goto 4, 3) := by decide +kernel
theorem dX12_strangers_30 : decode cX12_strangers 30 = .ok (.iconst 0, 1) := by decide +kernel
theorem dX12_strangers_31 : decode cX12_strangers 31 = .ok (.ior, 1) := by decide +kernel
theorem dX12_strangers_32 : decode cX12_strangers 32 = .ok (.istore_n 2, 1) := by decide +kernel
theorem dX12_strangers_33 : decode cX12_strangers 33 = .ok (.iinc 3 1, 3) := by decide +kernel
theorem dX12_strangers_36 : decode cX12_strangers 36 = .ok (.goto (-32), 3) := by decide +kernel
theorem dX12_strangers_39 : decode cX12_strangers 39 = .ok (.iload_n 2, 1) := by decide +kernel
theorem dX12_strangers_40 : decode cX12_strangers 40 = .ok (.ireturn, 1) := by decide +kernel
theorem dX12_are_0 : decode cX12_are 0 = .ok (.iconst 0, 1) := by decide +kernel
theorem dX12_are_1 : decode cX12_are 1 = .ok (.istore_n 2, 1) := by decide +kernel
theorem dX12_are_2 : decode cX12_are 2 = .ok (.iconst 0, 1) := by decide +kernel
theorem dX12_are_3 : decode cX12_are 3 = .ok (.istore_n 3, 1) := by decide +kernel
theorem dX12_are_4 : decode cX12_are 4 = .ok (.iload_n 3, 1) := by decide +kernel
theorem dX12_are_5 : decode cX12_are 5 = .ok (.aload_n 0, 1) := by decide +kernel
theorem dX12_are_6 : decode cX12_are 6 = .ok (.getfield 33, 3) := by decide +kernel
theorem dX12_are_9 : decode cX12_are 9 = .ok (.iconst 1, 1) := by decide +kernel
theorem dX12_are_10 : decode cX12_are 10 = .ok (.iaload, 1) := by decide +kernel
theorem dX12_are_11 : decode cX12_are 11 = .ok (.if_icmp .ge 32, 3) := by decide +kernel
theorem dX12_are_14 : decode cX12_are 14 = .ok (.iload_n 2, 1) := by decide +kernel
theorem dX12_are_15 : decode cX12_are 15 = .ok (.aload_n 0, 1) := by decide +kernel
theorem dX12_are_16 : decode cX12_are 16 = .ok (.getfield 33, 3) := by decide +kernel
theorem dX12_are_19 : decode cX12_are 19 = .ok (.bipush 73, 2) := by decide +kernel
theorem dX12_are_21 : decode cX12_are 21 = .ok (.iload_n 3, 1) := by decide +kernel
theorem dX12_are_22 : decode cX12_are 22 = .ok (.iadd, 1) := by decide +kernel
theorem dX12_are_23 : decode cX12_are 23 = .ok (.iaload, 1) := by decide +kernel
theorem dX12_are_24 : decode cX12_are 24 = .ok (.iload_n 1, 1) := by decide +kernel
theorem dX12_are_25 : decode cX12_are 25 = .ok (.if_icmp .ne 9, 3) := by decide +kernel
theorem dX12_are_28 : decode cX12_are 28 = .ok (.iconst 1, 1) := by decide +kernel
theorem dX12_are_29 : decode cX12_are 29 = .ok (.iload_n 3, 1) := by decide +kernel
theorem dX12_are_30 : decode cX12_are 30 = .ok (.ishl, 1) := by decide +kernel
theorem dX12_are_31 : decode cX12_are 31 = .ok (.goto 4, 3) := by decide +kernel
theorem dX12_are_34 : decode cX12_are 34 = .ok (.iconst 0, 1) := by decide +kernel
theorem dX12_are_35 : decode cX12_are 35 = .ok (.ior, 1) := by decide +kernel
theorem dX12_are_36 : decode cX12_are 36 = .ok (.istore_n 2, 1) := by decide +kernel
theorem dX12_are_37 : decode cX12_are 37 = .ok (.iinc 3 1, 3) := by decide +kernel
theorem dX12_are_40 : decode cX12_are 40 = .ok (.goto (-36), 3) := by decide +kernel
theorem dX12_are_43 : decode cX12_are 43 = .ok (.iload_n 2, 1) := by decide +kernel
theorem dX12_are_44 : decode cX12_are 44 = .ok (.ireturn, 1) := by decide +kernel
theorem dX12_areAt_0 : decode cX12_areAt 0 = .ok (.iconst 0, 1) := by decide +kernel
theorem dX12_areAt_1 : decode cX12_areAt 1 = .ok (.istore_n 3, 1) := by decide +kernel
theorem dX12_areAt_2 : decode cX12_areAt 2 = .ok (.iconst 0, 1) := by decide +kernel
theorem dX12_areAt_3 : decode cX12_areAt 3 = .ok (.istore 4, 2) := by decide +kernel
theorem dX12_areAt_5 : decode cX12_areAt 5 = .ok (.iload 4, 2) := by decide +kernel
theorem dX12_areAt_7 : decode cX12_areAt 7 = .ok (.aload_n 0, 1) := by decide +kernel
theorem dX12_areAt_8 : decode cX12_areAt 8 = .ok (.getfield 33, 3) := by decide +kernel
theorem dX12_areAt_11 : decode cX12_areAt 11 = .ok (.iconst 1, 1) := by decide +kernel
theorem dX12_areAt_12 : decode cX12_areAt 12 = .ok (.iaload, 1) := by decide +kernel
theorem dX12_areAt_13 : decode cX12_areAt 13 = .ok (.if_icmp .ge 50, 3) := by decide +kernel
theorem dX12_areAt_16 : decode cX12_areAt 16 = .ok (.iload_n 3, 1) := by decide +kernel
theorem dX12_areAt_17 : decode cX12_areAt 17 = .ok (.aload_n 0, 1) := by decide +kernel
theorem dX12_areAt_18 : decode cX12_areAt 18 = .ok (.getfield 33, 3) := by decide +kernel
theorem dX12_areAt_21 : decode cX12_areAt 21 = .ok (.bipush 73, 2) := by decide +kernel
theorem dX12_areAt_23 : decode cX12_areAt 23 = .ok (.iload 4, 2) := by decide +kernel
theorem dX12_areAt_25 : decode cX12_areAt 25 = .ok (.iadd, 1) := by decide +kernel
theorem dX12_areAt_26 : decode cX12_areAt 26 = .ok (.iaload, 1) := by decide +kernel
theorem dX12_areAt_27 : decode cX12_areAt 27 = .ok (.iload_n 2, 1) := by decide +kernel
theorem dX12_areAt_28 : decode cX12_areAt 28 = .ok (.if_icmp .ne 26, 3) := by decide +kernel
theorem dX12_areAt_31 : decode cX12_areAt 31 = .ok (.aload_n 0, 1) := by decide +kernel
theorem dX12_areAt_32 : decode cX12_areAt 32 = .ok (.getfield 33, 3) := by decide +kernel
theorem dX12_areAt_35 : decode cX12_areAt 35 = .ok (.bipush 97, 2) := by decide +kernel
theorem dX12_areAt_37 : decode cX12_areAt 37 = .ok (.iload 4, 2) := by decide +kernel
theorem dX12_areAt_39 : decode cX12_areAt 39 = .ok (.iadd, 1) := by decide +kernel
theorem dX12_areAt_40 : decode cX12_areAt 40 = .ok (.iaload, 1) := by decide +kernel
theorem dX12_areAt_41 : decode cX12_areAt 41 = .ok (.iload_n 1, 1) := by decide +kernel
theorem dX12_areAt_42 : decode cX12_areAt 42 = .ok (.iconst 1, 1) := by decide +kernel
theorem dX12_areAt_43 : decode cX12_areAt 43 = .ok (.iadd, 1) := by decide +kernel
theorem dX12_areAt_44 : decode cX12_areAt 44 = .ok (.if_icmp .ne 10, 3) := by decide +kernel
theorem dX12_areAt_47 : decode cX12_areAt 47 = .ok (.iconst 1, 1) := by decide +kernel
theorem dX12_areAt_48 : decode cX12_areAt 48 = .ok (.iload 4, 2) := by decide +kernel
theorem dX12_areAt_50 : decode cX12_areAt 50 = .ok (.ishl, 1) := by decide +kernel
theorem dX12_areAt_51 : decode cX12_areAt 51 = .ok (.goto 4, 3) := by decide +kernel
theorem dX12_areAt_54 : decode cX12_areAt 54 = .ok (.iconst 0, 1) := by decide +kernel
theorem dX12_areAt_55 : decode cX12_areAt 55 = .ok (.ior, 1) := by decide +kernel
theorem dX12_areAt_56 : decode cX12_areAt 56 = .ok (.istore_n 3, 1) := by decide +kernel
theorem dX12_areAt_57 : decode cX12_areAt 57 = .ok (.iinc 4 1, 3) := by decide +kernel
theorem dX12_areAt_60 : decode cX12_areAt 60 = .ok (.goto (-55), 3) := by decide +kernel
theorem dX12_areAt_63 : decode cX12_areAt 63 = .ok (.iload_n 3, 1) := by decide +kernel
theorem dX12_areAt_64 : decode cX12_areAt 64 = .ok (.ireturn, 1) := by decide +kernel
theorem dX12_openHouses_0 : decode cX12_openHouses 0 = .ok (.iconst 0, 1) := by decide +kernel
theorem dX12_openHouses_1 : decode cX12_openHouses 1 = .ok (.istore_n 1, 1) := by decide +kernel
theorem dX12_openHouses_2 : decode cX12_openHouses 2 = .ok (.iconst 0, 1) := by decide +kernel
theorem dX12_openHouses_3 : decode cX12_openHouses 3 = .ok (.istore_n 2, 1) := by decide +kernel
theorem dX12_openHouses_4 : decode cX12_openHouses 4 = .ok (.iload_n 2, 1) := by decide +kernel
theorem dX12_openHouses_5 : decode cX12_openHouses 5 = .ok (.aload_n 0, 1) := by decide +kernel
theorem dX12_openHouses_6 : decode cX12_openHouses 6 = .ok (.getfield 33, 3) := by decide +kernel
theorem dX12_openHouses_9 : decode cX12_openHouses 9 = .ok (.iconst 0, 1) := by decide +kernel
theorem dX12_openHouses_10 : decode cX12_openHouses 10 = .ok (.iaload, 1) := by decide +kernel
theorem dX12_openHouses_11 : decode cX12_openHouses 11 = .ok (.if_icmp .ge 27, 3) := by decide +kernel
theorem dX12_openHouses_14 : decode cX12_openHouses 14 = .ok (.iload_n 1, 1) := by decide +kernel
theorem dX12_openHouses_15 : decode cX12_openHouses 15 = .ok (.aload_n 0, 1) := by decide +kernel
theorem dX12_openHouses_16 : decode cX12_openHouses 16 = .ok (.iload_n 2, 1) := by decide +kernel
theorem dX12_openHouses_17 : decode cX12_openHouses 17 = .ok (.invokevirtual 281, 3) := by decide +kernel
theorem dX12_openHouses_20 : decode cX12_openHouses 20 = .ok (.ifCond .eq 9, 3) := by decide +kernel
theorem dX12_openHouses_23 : decode cX12_openHouses 23 = .ok (.iconst 1, 1) := by decide +kernel
theorem dX12_openHouses_24 : decode cX12_openHouses 24 = .ok (.iload_n 2, 1) := by decide +kernel
theorem dX12_openHouses_25 : decode cX12_openHouses 25 = .ok (.ishl, 1) := by decide +kernel
theorem dX12_openHouses_26 : decode cX12_openHouses 26 = .ok (.goto 4, 3) := by decide +kernel
theorem dX12_openHouses_29 : decode cX12_openHouses 29 = .ok (.iconst 0, 1) := by decide +kernel
theorem dX12_openHouses_30 : decode cX12_openHouses 30 = .ok (.ior, 1) := by decide +kernel
theorem dX12_openHouses_31 : decode cX12_openHouses 31 = .ok (.istore_n 1, 1) := by decide +kernel
theorem dX12_openHouses_32 : decode cX12_openHouses 32 = .ok (.iinc 2 1, 3) := by decide +kernel
theorem dX12_openHouses_35 : decode cX12_openHouses 35 = .ok (.goto (-31), 3) := by decide +kernel
theorem dX12_openHouses_38 : decode cX12_openHouses 38 = .ok (.iload_n 1, 1) := by decide +kernel
theorem dX12_openHouses_39 : decode cX12_openHouses 39 = .ok (.ireturn, 1) := by decide +kernel
theorem dX12_callOf_0 : decode cX12_callOf 0 = .ok (.iconst 0, 1) := by decide +kernel
theorem dX12_callOf_1 : decode cX12_callOf 1 = .ok (.istore_n 3, 1) := by decide +kernel
theorem dX12_callOf_2 : decode cX12_callOf 2 = .ok (.iload_n 3, 1) := by decide +kernel
theorem dX12_callOf_3 : decode cX12_callOf 3 = .ok (.aload_n 0, 1) := by decide +kernel
theorem dX12_callOf_4 : decode cX12_callOf 4 = .ok (.getfield 33, 3) := by decide +kernel
theorem dX12_callOf_7 : decode cX12_callOf 7 = .ok (.bipush 72, 2) := by decide +kernel
theorem dX12_callOf_9 : decode cX12_callOf 9 = .ok (.iaload, 1) := by decide +kernel
theorem dX12_callOf_10 : decode cX12_callOf 10 = .ok (.if_icmp .ge 75, 3) := by decide +kernel
theorem dX12_callOf_13 : decode cX12_callOf 13 = .ok (.aload_n 0, 1) := by decide +kernel
theorem dX12_callOf_14 : decode cX12_callOf 14 = .ok (.getfield 33, 3) := by decide +kernel
theorem dX12_callOf_17 : decode cX12_callOf 17 = .ok (.sipush 137, 3) := by decide +kernel
theorem dX12_callOf_20 : decode cX12_callOf 20 = .ok (.iload_n 3, 1) := by decide +kernel
theorem dX12_callOf_21 : decode cX12_callOf 21 = .ok (.iadd, 1) := by decide +kernel
theorem dX12_callOf_22 : decode cX12_callOf 22 = .ok (.iaload, 1) := by decide +kernel
theorem dX12_callOf_23 : decode cX12_callOf 23 = .ok (.iload_n 1, 1) := by decide +kernel
theorem dX12_callOf_24 : decode cX12_callOf 24 = .ok (.if_icmp .ne 55, 3) := by decide +kernel
theorem dX12_callOf_27 : decode cX12_callOf 27 = .ok (.iload_n 2, 1) := by decide +kernel
theorem dX12_callOf_28 : decode cX12_callOf 28 = .ok (.ifCond .ge 35, 3) := by decide +kernel
theorem dX12_callOf_31 : decode cX12_callOf 31 = .ok (.aload_n 0, 1) := by decide +kernel
theorem dX12_callOf_32 : decode cX12_callOf 32 = .ok (.getfield 33, 3) := by decide +kernel
theorem dX12_callOf_35 : decode cX12_callOf 35 = .ok (.iconst 5, 1) := by decide +kernel
theorem dX12_callOf_36 : decode cX12_callOf 36 = .ok (.aload_n 0, 1) := by decide +kernel
theorem dX12_callOf_37 : decode cX12_callOf 37 = .ok (.getfield 33, 3) := by decide +kernel
theorem dX12_callOf_40 : decode cX12_callOf 40 = .ok (.sipush 149, 3) := by decide +kernel
theorem dX12_callOf_43 : decode cX12_callOf 43 = .ok (.iload_n 3, 1) := by decide +kernel
theorem dX12_callOf_44 : decode cX12_callOf 44 = .ok (.iadd, 1) := by decide +kernel
theorem dX12_callOf_45 : decode cX12_callOf 45 = .ok (.iaload, 1) := by decide +kernel
theorem dX12_callOf_46 : decode cX12_callOf 46 = .ok (.iadd, 1) := by decide +kernel
theorem dX12_callOf_47 : decode cX12_callOf 47 = .ok (.iaload, 1) := by decide +kernel
theorem dX12_callOf_48 : decode cX12_callOf 48 = .ok (.aload_n 0, 1) := by decide +kernel
theorem dX12_callOf_49 : decode cX12_callOf 49 = .ok (.getfield 33, 3) := by decide +kernel
theorem dX12_callOf_52 : decode cX12_callOf 52 = .ok (.bipush 81, 2) := by decide +kernel
theorem dX12_callOf_54 : decode cX12_callOf 54 = .ok (.iload_n 1, 1) := by decide +kernel
theorem dX12_callOf_55 : decode cX12_callOf 55 = .ok (.iadd, 1) := by decide +kernel
theorem dX12_callOf_56 : decode cX12_callOf 56 = .ok (.iaload, 1) := by decide +kernel
theorem dX12_callOf_57 : decode cX12_callOf 57 = .ok (.if_icmp .ne 22, 3) := by decide +kernel
theorem dX12_callOf_60 : decode cX12_callOf 60 = .ok (.goto 17, 3) := by decide +kernel
theorem dX12_callOf_63 : decode cX12_callOf 63 = .ok (.aload_n 0, 1) := by decide +kernel
theorem dX12_callOf_64 : decode cX12_callOf 64 = .ok (.getfield 33, 3) := by decide +kernel
theorem dX12_callOf_67 : decode cX12_callOf 67 = .ok (.sipush 149, 3) := by decide +kernel
theorem dX12_callOf_70 : decode cX12_callOf 70 = .ok (.iload_n 3, 1) := by decide +kernel
theorem dX12_callOf_71 : decode cX12_callOf 71 = .ok (.iadd, 1) := by decide +kernel
theorem dX12_callOf_72 : decode cX12_callOf 72 = .ok (.iaload, 1) := by decide +kernel
theorem dX12_callOf_73 : decode cX12_callOf 73 = .ok (.iload_n 2, 1) := by decide +kernel
theorem dX12_callOf_74 : decode cX12_callOf 74 = .ok (.if_icmp .ne 5, 3) := by decide +kernel
theorem dX12_callOf_77 : decode cX12_callOf 77 = .ok (.iload_n 3, 1) := by decide +kernel
theorem dX12_callOf_78 : decode cX12_callOf 78 = .ok (.ireturn, 1) := by decide +kernel
theorem dX12_callOf_79 : decode cX12_callOf 79 = .ok (.iinc 3 1, 3) := by decide +kernel
theorem dX12_callOf_82 : decode cX12_callOf 82 = .ok (.goto (-80), 3) := by decide +kernel
theorem dX12_callOf_85 : decode cX12_callOf 85 = .ok (.iconst (-1), 1) := by decide +kernel
theorem dX12_callOf_86 : decode cX12_callOf 86 = .ok (.ireturn, 1) := by decide +kernel
theorem dX12_house_0 : decode cX12_house 0 = .ok (.aload_n 0, 1) := by decide +kernel
theorem dX12_house_1 : decode cX12_house 1 = .ok (.iconst 0, 1) := by decide +kernel
theorem dX12_house_2 : decode cX12_house 2 = .ok (.putfield 1, 3) := by decide +kernel
theorem dX12_house_5 : decode cX12_house 5 = .ok (.aload_n 0, 1) := by decide +kernel
theorem dX12_house_6 : decode cX12_house 6 = .ok (.iload_n 1, 1) := by decide +kernel
theorem dX12_house_7 : decode cX12_house 7 = .ok (.invokevirtual 284, 3) := by decide +kernel
theorem dX12_house_10 : decode cX12_house 10 = .ok (.ifCond .ne 5, 3) := by decide +kernel
theorem dX12_house_13 : decode cX12_house 13 = .ok (.iconst (-1), 1) := by decide +kernel
theorem dX12_house_14 : decode cX12_house 14 = .ok (.ireturn, 1) := by decide +kernel
theorem dX12_house_15 : decode cX12_house 15 = .ok (.iload_n 2, 1) := by decide +kernel
theorem dX12_house_16 : decode cX12_house 16 = .ok (.tableswitch 71 0 4 #[36, 45, 51, 57, 64], 36) := by decide +kernel
theorem dX12_house_52 : decode cX12_house 52 = .ok (.aload_n 0, 1) := by decide +kernel
theorem dX12_house_53 : decode cX12_house 53 = .ok (.getfield 33, 3) := by decide +kernel
theorem dX12_house_56 : decode cX12_house 56 = .ok (.iconst 5, 1) := by decide +kernel
theorem dX12_house_57 : decode cX12_house 57 = .ok (.iload_n 1, 1) := by decide +kernel
theorem dX12_house_58 : decode cX12_house 58 = .ok (.iadd, 1) := by decide +kernel
theorem dX12_house_59 : decode cX12_house 59 = .ok (.iaload, 1) := by decide +kernel
theorem dX12_house_60 : decode cX12_house 60 = .ok (.ireturn, 1) := by decide +kernel
theorem dX12_house_61 : decode cX12_house 61 = .ok (.aload_n 0, 1) := by decide +kernel
theorem dX12_house_62 : decode cX12_house 62 = .ok (.iload_n 1, 1) := by decide +kernel
theorem dX12_house_63 : decode cX12_house 63 = .ok (.invokevirtual 274, 3) := by decide +kernel
theorem dX12_house_66 : decode cX12_house 66 = .ok (.ireturn, 1) := by decide +kernel
theorem dX12_house_67 : decode cX12_house 67 = .ok (.aload_n 0, 1) := by decide +kernel
theorem dX12_house_68 : decode cX12_house 68 = .ok (.iload_n 1, 1) := by decide +kernel
theorem dX12_house_69 : decode cX12_house 69 = .ok (.invokevirtual 281, 3) := by decide +kernel
theorem dX12_house_72 : decode cX12_house 72 = .ok (.ireturn, 1) := by decide +kernel
theorem dX12_house_73 : decode cX12_house 73 = .ok (.aload_n 0, 1) := by decide +kernel
theorem dX12_house_74 : decode cX12_house 74 = .ok (.iload_n 1, 1) := by decide +kernel
theorem dX12_house_75 : decode cX12_house 75 = .ok (.iconst 1, 1) := by decide +kernel
theorem dX12_house_76 : decode cX12_house 76 = .ok (.invokevirtual 287, 3) := by decide +kernel
theorem dX12_house_79 : decode cX12_house 79 = .ok (.ireturn, 1) := by decide +kernel
theorem dX12_house_80 : decode cX12_house 80 = .ok (.aload_n 0, 1) := by decide +kernel
theorem dX12_house_81 : decode cX12_house 81 = .ok (.iload_n 1, 1) := by decide +kernel
theorem dX12_house_82 : decode cX12_house 82 = .ok (.iconst 2, 1) := by decide +kernel
theorem dX12_house_83 : decode cX12_house 83 = .ok (.invokevirtual 287, 3) := by decide +kernel
theorem dX12_house_86 : decode cX12_house 86 = .ok (.ireturn, 1) := by decide +kernel
theorem dX12_house_87 : decode cX12_house 87 = .ok (.iconst (-1), 1) := by decide +kernel
theorem dX12_house_88 : decode cX12_house 88 = .ok (.ireturn, 1) := by decide +kernel
theorem dX12_person_0 : decode cX12_person 0 = .ok (.aload_n 0, 1) := by decide +kernel
theorem dX12_person_1 : decode cX12_person 1 = .ok (.aload_n 0, 1) := by decide +kernel
theorem dX12_person_2 : decode cX12_person 2 = .ok (.iload_n 1, 1) := by decide +kernel
theorem dX12_person_3 : decode cX12_person 3 = .ok (.invokevirtual 290, 3) := by decide +kernel
theorem dX12_person_6 : decode cX12_person 6 = .ok (.ifCond .eq 13, 3) := by decide +kernel
theorem dX12_person_9 : decode cX12_person 9 = .ok (.iload_n 2, 1) := by decide +kernel
theorem dX12_person_10 : decode cX12_person 10 = .ok (.iconst 0, 1) := by decide +kernel
theorem dX12_person_11 : decode cX12_person 11 = .ok (.bipush 10, 2) := by decide +kernel
theorem dX12_person_13 : decode cX12_person 13 = .ok (.invokestatic 193, 3) := by decide +kernel
theorem dX12_person_16 : decode cX12_person 16 = .ok (.ifCond .ne 7, 3) := by decide +kernel
theorem dX12_person_19 : decode cX12_person 19 = .ok (.iconst 1, 1) := by decide +kernel
theorem dX12_person_20 : decode cX12_person 20 = .ok (.goto 4, 3) := by decide +kernel
theorem dX12_person_23 : decode cX12_person 23 = .ok (.iconst 0, 1) := by decide +kernel
theorem dX12_person_24 : decode cX12_person 24 = .ok (.invokevirtual 293, 3) := by decide +kernel
theorem dX12_person_27 : decode cX12_person 27 = .ok (.ifCond .eq 5, 3) := by decide +kernel
theorem dX12_person_30 : decode cX12_person 30 = .ok (.iconst 0, 1) := by decide +kernel
theorem dX12_person_31 : decode cX12_person 31 = .ok (.ireturn, 1) := by decide +kernel
theorem dX12_person_32 : decode cX12_person 32 = .ok (.iconst 0, 1) := by decide +kernel
theorem dX12_person_33 : decode cX12_person 33 = .ok (.istore_n 3, 1) := by decide +kernel
theorem dX12_person_34 : decode cX12_person 34 = .ok (.iconst 0, 1) := by decide +kernel
theorem dX12_person_35 : decode cX12_person 35 = .ok (.istore 4, 2) := by decide +kernel
theorem dX12_person_37 : decode cX12_person 37 = .ok (.iload 4, 2) := by decide +kernel
theorem dX12_person_39 : decode cX12_person 39 = .ok (.aload_n 0, 1) := by decide +kernel
theorem dX12_person_40 : decode cX12_person 40 = .ok (.getfield 33, 3) := by decide +kernel
theorem dX12_person_43 : decode cX12_person 43 = .ok (.bipush 72, 2) := by decide +kernel
theorem dX12_person_45 : decode cX12_person 45 = .ok (.iaload, 1) := by decide +kernel
theorem dX12_person_46 : decode cX12_person 46 = .ok (.if_icmp .ge 44, 3) := by decide +kernel
theorem dX12_person_49 : decode cX12_person 49 = .ok (.iload_n 3, 1) := by decide +kernel
theorem dX12_person_50 : decode cX12_person 50 = .ok (.aload_n 0, 1) := by decide +kernel
theorem dX12_person_51 : decode cX12_person 51 = .ok (.getfield 33, 3) := by decide +kernel
theorem dX12_person_54 : decode cX12_person 54 = .ok (.sipush 137, 3) := by decide +kernel
theorem dX12_person_57 : decode cX12_person 57 = .ok (.iload 4, 2) := by decide +kernel
theorem dX12_person_59 : decode cX12_person 59 = .ok (.iadd, 1) := by decide +kernel
theorem dX12_person_60 : decode cX12_person 60 = .ok (.iaload, 1) := by decide +kernel
theorem dX12_person_61 : decode cX12_person 61 = .ok (.iload_n 1, 1) := by decide +kernel
theorem dX12_person_62 : decode cX12_person 62 = .ok (.if_icmp .ne 19, 3) := by decide +kernel
theorem dX12_person_65 : decode cX12_person 65 = .ok (.iconst 1, 1) := by decide +kernel
theorem dX12_person_66 : decode cX12_person 66 = .ok (.aload_n 0, 1) := by decide +kernel
theorem dX12_person_67 : decode cX12_person 67 = .ok (.getfield 33, 3) := by decide +kernel
theorem dX12_person_70 : decode cX12_person 70 = .ok (.sipush 149, 3) := by decide +kernel
theorem dX12_person_73 : decode cX12_person 73 = .ok (.iload 4, 2) := by decide +kernel
theorem dX12_person_75 : decode cX12_person 75 = .ok (.iadd, 1) := by decide +kernel
theorem dX12_person_76 : decode cX12_person 76 = .ok (.iaload, 1) := by decide +kernel
theorem dX12_person_77 : decode cX12_person 77 = .ok (.ishl, 1) := by decide +kernel
theorem dX12_person_78 : decode cX12_person 78 = .ok (.goto 4, 3) := by decide +kernel
theorem dX12_person_81 : decode cX12_person 81 = .ok (.iconst 0, 1) := by decide +kernel
theorem dX12_person_82 : decode cX12_person 82 = .ok (.ior, 1) := by decide +kernel
theorem dX12_person_83 : decode cX12_person 83 = .ok (.istore_n 3, 1) := by decide +kernel
theorem dX12_person_84 : decode cX12_person 84 = .ok (.iinc 4 1, 3) := by decide +kernel
theorem dX12_person_87 : decode cX12_person 87 = .ok (.goto (-50), 3) := by decide +kernel
theorem dX12_person_90 : decode cX12_person 90 = .ok (.iload_n 2, 1) := by decide +kernel
theorem dX12_person_91 : decode cX12_person 91 = .ok (.tableswitch 150 0 9 #[53, 63, 73, 83, 95, 105, 115, 117, 127, 138], 53) := by decide +kernel
theorem dX12_person_144 : decode cX12_person 144 = .ok (.aload_n 0, 1) := by decide +kernel
theorem dX12_person_145 : decode cX12_person 145 = .ok (.getfield 33, 3) := by decide +kernel
theorem dX12_person_148 : decode cX12_person 148 = .ok (.bipush 73, 2) := by decide +kernel
theorem dX12_person_150 : decode cX12_person 150 = .ok (.iload_n 1, 1) := by decide +kernel
theorem dX12_person_151 : decode cX12_person 151 = .ok (.iadd, 1) := by decide +kernel
theorem dX12_person_152 : decode cX12_person 152 = .ok (.iaload, 1) := by decide +kernel
theorem dX12_person_153 : decode cX12_person 153 = .ok (.ireturn, 1) := by decide +kernel
theorem dX12_person_154 : decode cX12_person 154 = .ok (.aload_n 0, 1) := by decide +kernel
theorem dX12_person_155 : decode cX12_person 155 = .ok (.getfield 33, 3) := by decide +kernel
theorem dX12_person_158 : decode cX12_person 158 = .ok (.bipush 81, 2) := by decide +kernel
theorem dX12_person_160 : decode cX12_person 160 = .ok (.iload_n 1, 1) := by decide +kernel
theorem dX12_person_161 : decode cX12_person 161 = .ok (.iadd, 1) := by decide +kernel
theorem dX12_person_162 : decode cX12_person 162 = .ok (.iaload, 1) := by decide +kernel
theorem dX12_person_163 : decode cX12_person 163 = .ok (.ireturn, 1) := by decide +kernel
theorem dX12_person_164 : decode cX12_person 164 = .ok (.aload_n 0, 1) := by decide +kernel
theorem dX12_person_165 : decode cX12_person 165 = .ok (.getfield 33, 3) := by decide +kernel
theorem dX12_person_168 : decode cX12_person 168 = .ok (.bipush 89, 2) := by decide +kernel
theorem dX12_person_170 : decode cX12_person 170 = .ok (.iload_n 1, 1) := by decide +kernel
theorem dX12_person_171 : decode cX12_person 171 = .ok (.iadd, 1) := by decide +kernel
theorem dX12_person_172 : decode cX12_person 172 = .ok (.iaload, 1) := by decide +kernel
theorem dX12_person_173 : decode cX12_person 173 = .ok (.ireturn, 1) := by decide +kernel
theorem dX12_person_174 : decode cX12_person 174 = .ok (.aload_n 0, 1) := by decide +kernel
theorem dX12_person_175 : decode cX12_person 175 = .ok (.getfield 33, 3) := by decide +kernel
theorem dX12_person_178 : decode cX12_person 178 = .ok (.bipush 97, 2) := by decide +kernel
theorem dX12_person_180 : decode cX12_person 180 = .ok (.iload_n 1, 1) := by decide +kernel
theorem dX12_person_181 : decode cX12_person 181 = .ok (.iadd, 1) := by decide +kernel
theorem dX12_person_182 : decode cX12_person 182 = .ok (.iaload, 1) := by decide +kernel
theorem dX12_person_183 : decode cX12_person 183 = .ok (.iconst 1, 1) := by decide +kernel
theorem dX12_person_184 : decode cX12_person 184 = .ok (.isub, 1) := by decide +kernel
theorem dX12_person_185 : decode cX12_person 185 = .ok (.ireturn, 1) := by decide +kernel
theorem dX12_person_186 : decode cX12_person 186 = .ok (.aload_n 0, 1) := by decide +kernel
theorem dX12_person_187 : decode cX12_person 187 = .ok (.getfield 33, 3) := by decide +kernel
theorem dX12_person_190 : decode cX12_person 190 = .ok (.bipush 105, 2) := by decide +kernel
theorem dX12_person_192 : decode cX12_person 192 = .ok (.iload_n 1, 1) := by decide +kernel
theorem dX12_person_193 : decode cX12_person 193 = .ok (.iadd, 1) := by decide +kernel
theorem dX12_person_194 : decode cX12_person 194 = .ok (.iaload, 1) := by decide +kernel
theorem dX12_person_195 : decode cX12_person 195 = .ok (.ireturn, 1) := by decide +kernel
theorem dX12_person_196 : decode cX12_person 196 = .ok (.aload_n 0, 1) := by decide +kernel
theorem dX12_person_197 : decode cX12_person 197 = .ok (.getfield 33, 3) := by decide +kernel
theorem dX12_person_200 : decode cX12_person 200 = .ok (.bipush 113, 2) := by decide +kernel
theorem dX12_person_202 : decode cX12_person 202 = .ok (.iload_n 1, 1) := by decide +kernel
theorem dX12_person_203 : decode cX12_person 203 = .ok (.iadd, 1) := by decide +kernel
theorem dX12_person_204 : decode cX12_person 204 = .ok (.iaload, 1) := by decide +kernel
theorem dX12_person_205 : decode cX12_person 205 = .ok (.ireturn, 1) := by decide +kernel
theorem dX12_person_206 : decode cX12_person 206 = .ok (.iload_n 3, 1) := by decide +kernel
theorem dX12_person_207 : decode cX12_person 207 = .ok (.ireturn, 1) := by decide +kernel
theorem dX12_person_208 : decode cX12_person 208 = .ok (.aload_n 0, 1) := by decide +kernel
theorem dX12_person_209 : decode cX12_person 209 = .ok (.getfield 33, 3) := by decide +kernel
theorem dX12_person_212 : decode cX12_person 212 = .ok (.bipush 121, 2) := by decide +kernel
theorem dX12_person_214 : decode cX12_person 214 = .ok (.iload_n 1, 1) := by decide +kernel
theorem dX12_person_215 : decode cX12_person 215 = .ok (.iadd, 1) := by decide +kernel
theorem dX12_person_216 : decode cX12_person 216 = .ok (.iaload, 1) := by decide +kernel
theorem dX12_person_217 : decode cX12_person 217 = .ok (.ireturn, 1) := by decide +kernel
theorem dX12_person_218 : decode cX12_person 218 = .ok (.aload_n 0, 1) := by decide +kernel
theorem dX12_person_219 : decode cX12_person 219 = .ok (.getfield 33, 3) := by decide +kernel
theorem dX12_person_222 : decode cX12_person 222 = .ok (.sipush 129, 3) := by decide +kernel
theorem dX12_person_225 : decode cX12_person 225 = .ok (.iload_n 1, 1) := by decide +kernel
theorem dX12_person_226 : decode cX12_person 226 = .ok (.iadd, 1) := by decide +kernel
theorem dX12_person_227 : decode cX12_person 227 = .ok (.iaload, 1) := by decide +kernel
theorem dX12_person_228 : decode cX12_person 228 = .ok (.ireturn, 1) := by decide +kernel
theorem dX12_person_229 : decode cX12_person 229 = .ok (.aload_n 0, 1) := by decide +kernel
theorem dX12_person_230 : decode cX12_person 230 = .ok (.getfield 33, 3) := by decide +kernel
theorem dX12_person_233 : decode cX12_person 233 = .ok (.bipush 11, 2) := by decide +kernel
theorem dX12_person_235 : decode cX12_person 235 = .ok (.iload_n 1, 1) := by decide +kernel
theorem dX12_person_236 : decode cX12_person 236 = .ok (.iadd, 1) := by decide +kernel
theorem dX12_person_237 : decode cX12_person 237 = .ok (.iaload, 1) := by decide +kernel
theorem dX12_person_238 : decode cX12_person 238 = .ok (.iconst 1, 1) := by decide +kernel
theorem dX12_person_239 : decode cX12_person 239 = .ok (.isub, 1) := by decide +kernel
theorem dX12_person_240 : decode cX12_person 240 = .ok (.ireturn, 1) := by decide +kernel
theorem dX12_person_241 : decode cX12_person 241 = .ok (.aload_n 0, 1) := by decide +kernel
theorem dX12_person_242 : decode cX12_person 242 = .ok (.getfield 33, 3) := by decide +kernel
theorem dX12_person_245 : decode cX12_person 245 = .ok (.bipush 35, 2) := by decide +kernel
theorem dX12_person_247 : decode cX12_person 247 = .ok (.iaload, 1) := by decide +kernel
theorem dX12_person_248 : decode cX12_person 248 = .ok (.iload_n 1, 1) := by decide +kernel
theorem dX12_person_249 : decode cX12_person 249 = .ok (.ishr, 1) := by decide +kernel
theorem dX12_person_250 : decode cX12_person 250 = .ok (.iconst 1, 1) := by decide +kernel
theorem dX12_person_251 : decode cX12_person 251 = .ok (.iand, 1) := by decide +kernel
theorem dX12_person_252 : decode cX12_person 252 = .ok (.ireturn, 1) := by decide +kernel
theorem dX12_call_0 : decode cX12_call 0 = .ok (.aload_n 0, 1) := by decide +kernel
theorem dX12_call_1 : decode cX12_call 1 = .ok (.iconst 0, 1) := by decide +kernel
theorem dX12_call_2 : decode cX12_call 2 = .ok (.putfield 1, 3) := by decide +kernel
theorem dX12_call_5 : decode cX12_call 5 = .ok (.iload_n 1, 1) := by decide +kernel
theorem dX12_call_6 : decode cX12_call 6 = .ok (.iconst 0, 1) := by decide +kernel
theorem dX12_call_7 : decode cX12_call 7 = .ok (.aload_n 0, 1) := by decide +kernel
theorem dX12_call_8 : decode cX12_call 8 = .ok (.getfield 33, 3) := by decide +kernel
theorem dX12_call_11 : decode cX12_call 11 = .ok (.bipush 72, 2) := by decide +kernel
theorem dX12_call_13 : decode cX12_call 13 = .ok (.iaload, 1) := by decide +kernel
theorem dX12_call_14 : decode cX12_call 14 = .ok (.iconst 1, 1) := by decide +kernel
theorem dX12_call_15 : decode cX12_call 15 = .ok (.isub, 1) := by decide +kernel
theorem dX12_call_16 : decode cX12_call 16 = .ok (.invokestatic 193, 3) := by decide +kernel
theorem dX12_call_19 : decode cX12_call 19 = .ok (.ifCond .eq 42, 3) := by decide +kernel
theorem dX12_call_22 : decode cX12_call 22 = .ok (.iload_n 2, 1) := by decide +kernel
theorem dX12_call_23 : decode cX12_call 23 = .ok (.ifCond .ne 16, 3) := by decide +kernel
theorem dX12_call_26 : decode cX12_call 26 = .ok (.aload_n 0, 1) := by decide +kernel
theorem dX12_call_27 : decode cX12_call 27 = .ok (.getfield 33, 3) := by decide +kernel
theorem dX12_call_30 : decode cX12_call 30 = .ok (.sipush 137, 3) := by decide +kernel
theorem dX12_call_33 : decode cX12_call 33 = .ok (.iload_n 1, 1) := by decide +kernel
theorem dX12_call_34 : decode cX12_call 34 = .ok (.iadd, 1) := by decide +kernel
theorem dX12_call_35 : decode cX12_call 35 = .ok (.iaload, 1) := by decide +kernel
theorem dX12_call_36 : decode cX12_call 36 = .ok (.goto 26, 3) := by decide +kernel
theorem dX12_call_39 : decode cX12_call 39 = .ok (.iload_n 2, 1) := by decide +kernel
theorem dX12_call_40 : decode cX12_call 40 = .ok (.iconst 1, 1) := by decide +kernel
theorem dX12_call_41 : decode cX12_call 41 = .ok (.if_icmp .ne 16, 3) := by decide +kernel
theorem dX12_call_44 : decode cX12_call 44 = .ok (.aload_n 0, 1) := by decide +kernel
theorem dX12_call_45 : decode cX12_call 45 = .ok (.getfield 33, 3) := by decide +kernel
theorem dX12_call_48 : decode cX12_call 48 = .ok (.sipush 149, 3) := by decide +kernel
theorem dX12_call_51 : decode cX12_call 51 = .ok (.iload_n 1, 1) := by decide +kernel
theorem dX12_call_52 : decode cX12_call 52 = .ok (.iadd, 1) := by decide +kernel
theorem dX12_call_53 : decode cX12_call 53 = .ok (.iaload, 1) := by decide +kernel
theorem dX12_call_54 : decode cX12_call 54 = .ok (.goto 8, 3) := by decide +kernel
theorem dX12_call_57 : decode cX12_call 57 = .ok (.iconst (-1), 1) := by decide +kernel
theorem dX12_call_58 : decode cX12_call 58 = .ok (.goto 4, 3) := by decide +kernel
theorem dX12_call_61 : decode cX12_call 61 = .ok (.iconst (-1), 1) := by decide +kernel
theorem dX12_call_62 : decode cX12_call 62 = .ok (.ireturn, 1) := by decide +kernel
theorem dX12_now_0 : decode cX12_now 0 = .ok (.aload_n 0, 1) := by decide +kernel
theorem dX12_now_1 : decode cX12_now 1 = .ok (.iconst 0, 1) := by decide +kernel
theorem dX12_now_2 : decode cX12_now 2 = .ok (.putfield 1, 3) := by decide +kernel
theorem dX12_now_5 : decode cX12_now 5 = .ok (.iload_n 1, 1) := by decide +kernel
theorem dX12_now_6 : decode cX12_now 6 = .ok (.tableswitch 101 0 7 #[46, 54, 60, 66, 72, 77, 85, 93], 46) := by decide +kernel
theorem dX12_now_52 : decode cX12_now 52 = .ok (.aload_n 0, 1) := by decide +kernel
theorem dX12_now_53 : decode cX12_now 53 = .ok (.getfield 33, 3) := by decide +kernel
theorem dX12_now_56 : decode cX12_now 56 = .ok (.bipush 69, 2) := by decide +kernel
theorem dX12_now_58 : decode cX12_now 58 = .ok (.iaload, 1) := by decide +kernel
theorem dX12_now_59 : decode cX12_now 59 = .ok (.ireturn, 1) := by decide +kernel
theorem dX12_now_60 : decode cX12_now 60 = .ok (.aload_n 0, 1) := by decide +kernel
theorem dX12_now_61 : decode cX12_now 61 = .ok (.iconst 0, 1) := by decide +kernel
theorem dX12_now_62 : decode cX12_now 62 = .ok (.invokevirtual 297, 3) := by decide +kernel
theorem dX12_now_65 : decode cX12_now 65 = .ok (.ireturn, 1) := by decide +kernel
theorem dX12_now_66 : decode cX12_now 66 = .ok (.aload_n 0, 1) := by decide +kernel
theorem dX12_now_67 : decode cX12_now 67 = .ok (.iconst 1, 1) := by decide +kernel
theorem dX12_now_68 : decode cX12_now 68 = .ok (.invokevirtual 297, 3) := by decide +kernel
theorem dX12_now_71 : decode cX12_now 71 = .ok (.ireturn, 1) := by decide +kernel
theorem dX12_now_72 : decode cX12_now 72 = .ok (.aload_n 0, 1) := by decide +kernel
theorem dX12_now_73 : decode cX12_now 73 = .ok (.iconst 2, 1) := by decide +kernel
theorem dX12_now_74 : decode cX12_now 74 = .ok (.invokevirtual 297, 3) := by decide +kernel
theorem dX12_now_77 : decode cX12_now 77 = .ok (.ireturn, 1) := by decide +kernel
theorem dX12_now_78 : decode cX12_now 78 = .ok (.aload_n 0, 1) := by decide +kernel
theorem dX12_now_79 : decode cX12_now 79 = .ok (.invokevirtual 300, 3) := by decide +kernel
theorem dX12_now_82 : decode cX12_now 82 = .ok (.ireturn, 1) := by decide +kernel
theorem dX12_now_83 : decode cX12_now 83 = .ok (.aload_n 0, 1) := by decide +kernel
theorem dX12_now_84 : decode cX12_now 84 = .ok (.getfield 33, 3) := by decide +kernel
theorem dX12_now_87 : decode cX12_now 87 = .ok (.bipush 72, 2) := by decide +kernel
theorem dX12_now_89 : decode cX12_now 89 = .ok (.iaload, 1) := by decide +kernel
theorem dX12_now_90 : decode cX12_now 90 = .ok (.ireturn, 1) := by decide +kernel
theorem dX12_now_91 : decode cX12_now 91 = .ok (.aload_n 0, 1) := by decide +kernel
theorem dX12_now_92 : decode cX12_now 92 = .ok (.getfield 33, 3) := by decide +kernel
theorem dX12_now_95 : decode cX12_now 95 = .ok (.bipush 70, 2) := by decide +kernel
theorem dX12_now_97 : decode cX12_now 97 = .ok (.iaload, 1) := by decide +kernel
theorem dX12_now_98 : decode cX12_now 98 = .ok (.ireturn, 1) := by decide +kernel
theorem dX12_now_99 : decode cX12_now 99 = .ok (.aload_n 0, 1) := by decide +kernel
theorem dX12_now_100 : decode cX12_now 100 = .ok (.getfield 33, 3) := by decide +kernel
theorem dX12_now_103 : decode cX12_now 103 = .ok (.bipush 71, 2) := by decide +kernel
theorem dX12_now_105 : decode cX12_now 105 = .ok (.iaload, 1) := by decide +kernel
theorem dX12_now_106 : decode cX12_now 106 = .ok (.ireturn, 1) := by decide +kernel
theorem dX12_now_107 : decode cX12_now 107 = .ok (.iconst (-1), 1) := by decide +kernel
theorem dX12_now_108 : decode cX12_now 108 = .ok (.ireturn, 1) := by decide +kernel
theorem dX12_whyKnock_0 : decode cX12_whyKnock 0 = .ok (.aload_n 0, 1) := by decide +kernel
theorem dX12_whyKnock_1 : decode cX12_whyKnock 1 = .ok (.getfield 33, 3) := by decide +kernel
theorem dX12_whyKnock_4 : decode cX12_whyKnock 4 = .ok (.bipush 73, 2) := by decide +kernel
theorem dX12_whyKnock_6 : decode cX12_whyKnock 6 = .ok (.iload_n 1, 1) := by decide +kernel
theorem dX12_whyKnock_7 : decode cX12_whyKnock 7 = .ok (.iadd, 1) := by decide +kernel
theorem dX12_whyKnock_8 : decode cX12_whyKnock 8 = .ok (.iaload, 1) := by decide +kernel
theorem dX12_whyKnock_9 : decode cX12_whyKnock 9 = .ok (.ifCond .eq 7, 3) := by decide +kernel
theorem dX12_whyKnock_12 : decode cX12_whyKnock 12 = .ok (.iconst 1, 1) := by decide +kernel
theorem dX12_whyKnock_13 : decode cX12_whyKnock 13 = .ok (.goto 47, 3) := by decide +kernel
theorem dX12_whyKnock_16 : decode cX12_whyKnock 16 = .ok (.aload_n 0, 1) := by decide +kernel
theorem dX12_whyKnock_17 : decode cX12_whyKnock 17 = .ok (.getfield 33, 3) := by decide +kernel
theorem dX12_whyKnock_20 : decode cX12_whyKnock 20 = .ok (.iconst 5, 1) := by decide +kernel
theorem dX12_whyKnock_21 : decode cX12_whyKnock 21 = .ok (.iload_n 2, 1) := by decide +kernel
theorem dX12_whyKnock_22 : decode cX12_whyKnock 22 = .ok (.iadd, 1) := by decide +kernel
theorem dX12_whyKnock_23 : decode cX12_whyKnock 23 = .ok (.iaload, 1) := by decide +kernel
theorem dX12_whyKnock_24 : decode cX12_whyKnock 24 = .ok (.aload_n 0, 1) := by decide +kernel
theorem dX12_whyKnock_25 : decode cX12_whyKnock 25 = .ok (.getfield 33, 3) := by decide +kernel
theorem dX12_whyKnock_28 : decode cX12_whyKnock 28 = .ok (.bipush 81, 2) := by decide +kernel
theorem dX12_whyKnock_30 : decode cX12_whyKnock 30 = .ok (.iload_n 1, 1) := by decide +kernel
theorem dX12_whyKnock_31 : decode cX12_whyKnock 31 = .ok (.iadd, 1) := by decide +kernel
theorem dX12_whyKnock_32 : decode cX12_whyKnock 32 = .ok (.iaload, 1) := by decide +kernel
theorem dX12_whyKnock_33 : decode cX12_whyKnock 33 = .ok (.if_icmp .eq 7, 3) := by decide +kernel
theorem dX12_whyKnock_36 : decode cX12_whyKnock 36 = .ok (.iconst 2, 1) := by decide +kernel
theorem dX12_whyKnock_37 : decode cX12_whyKnock 37 = .ok (.goto 23, 3) := by decide +kernel
theorem dX12_whyKnock_40 : decode cX12_whyKnock 40 = .ok (.aload_n 0, 1) := by decide +kernel
theorem dX12_whyKnock_41 : decode cX12_whyKnock 41 = .ok (.getfield 33, 3) := by decide +kernel
theorem dX12_whyKnock_44 : decode cX12_whyKnock 44 = .ok (.bipush 11, 2) := by decide +kernel
theorem dX12_whyKnock_46 : decode cX12_whyKnock 46 = .ok (.iload_n 1, 1) := by decide +kernel
theorem dX12_whyKnock_47 : decode cX12_whyKnock 47 = .ok (.iadd, 1) := by decide +kernel
theorem dX12_whyKnock_48 : decode cX12_whyKnock 48 = .ok (.iaload, 1) := by decide +kernel
theorem dX12_whyKnock_49 : decode cX12_whyKnock 49 = .ok (.iload_n 2, 1) := by decide +kernel
theorem dX12_whyKnock_50 : decode cX12_whyKnock 50 = .ok (.iconst 1, 1) := by decide +kernel
theorem dX12_whyKnock_51 : decode cX12_whyKnock 51 = .ok (.iadd, 1) := by decide +kernel
theorem dX12_whyKnock_52 : decode cX12_whyKnock 52 = .ok (.if_icmp .ne 7, 3) := by decide +kernel
theorem dX12_whyKnock_55 : decode cX12_whyKnock 55 = .ok (.iconst 3, 1) := by decide +kernel
theorem dX12_whyKnock_56 : decode cX12_whyKnock 56 = .ok (.goto 4, 3) := by decide +kernel
theorem dX12_whyKnock_59 : decode cX12_whyKnock 59 = .ok (.iconst 0, 1) := by decide +kernel
theorem dX12_whyKnock_60 : decode cX12_whyKnock 60 = .ok (.ireturn, 1) := by decide +kernel
theorem dX12_whyGo_0 : decode cX12_whyGo 0 = .ok (.aload_n 0, 1) := by decide +kernel
theorem dX12_whyGo_1 : decode cX12_whyGo 1 = .ok (.getfield 33, 3) := by decide +kernel
theorem dX12_whyGo_4 : decode cX12_whyGo 4 = .ok (.bipush 73, 2) := by decide +kernel
theorem dX12_whyGo_6 : decode cX12_whyGo 6 = .ok (.iload_n 1, 1) := by decide +kernel
theorem dX12_whyGo_7 : decode cX12_whyGo 7 = .ok (.iadd, 1) := by decide +kernel
theorem dX12_whyGo_8 : decode cX12_whyGo 8 = .ok (.iaload, 1) := by decide +kernel
theorem dX12_whyGo_9 : decode cX12_whyGo 9 = .ok (.ifCond .eq 7, 3) := by decide +kernel
theorem dX12_whyGo_12 : decode cX12_whyGo 12 = .ok (.iconst 1, 1) := by decide +kernel
theorem dX12_whyGo_13 : decode cX12_whyGo 13 = .ok (.goto 21, 3) := by decide +kernel
theorem dX12_whyGo_16 : decode cX12_whyGo 16 = .ok (.aload_n 0, 1) := by decide +kernel
theorem dX12_whyGo_17 : decode cX12_whyGo 17 = .ok (.getfield 33, 3) := by decide +kernel
theorem dX12_whyGo_20 : decode cX12_whyGo 20 = .ok (.bipush 89, 2) := by decide +kernel
theorem dX12_whyGo_22 : decode cX12_whyGo 22 = .ok (.iload_n 1, 1) := by decide +kernel
theorem dX12_whyGo_23 : decode cX12_whyGo 23 = .ok (.iadd, 1) := by decide +kernel
theorem dX12_whyGo_24 : decode cX12_whyGo 24 = .ok (.iaload, 1) := by decide +kernel
theorem dX12_whyGo_25 : decode cX12_whyGo 25 = .ok (.iload_n 2, 1) := by decide +kernel
theorem dX12_whyGo_26 : decode cX12_whyGo 26 = .ok (.if_icmp .ne 7, 3) := by decide +kernel
theorem dX12_whyGo_29 : decode cX12_whyGo 29 = .ok (.iconst 2, 1) := by decide +kernel
theorem dX12_whyGo_30 : decode cX12_whyGo 30 = .ok (.goto 4, 3) := by decide +kernel
theorem dX12_whyGo_33 : decode cX12_whyGo 33 = .ok (.iconst 0, 1) := by decide +kernel
theorem dX12_whyGo_34 : decode cX12_whyGo 34 = .ok (.ireturn, 1) := by decide +kernel
theorem dX12_whyCall_0 : decode cX12_whyCall 0 = .ok (.aload_n 0, 1) := by decide +kernel
theorem dX12_whyCall_1 : decode cX12_whyCall 1 = .ok (.getfield 33, 3) := by decide +kernel
theorem dX12_whyCall_4 : decode cX12_whyCall 4 = .ok (.bipush 11, 2) := by decide +kernel
theorem dX12_whyCall_6 : decode cX12_whyCall 6 = .ok (.iload_n 1, 1) := by decide +kernel
theorem dX12_whyCall_7 : decode cX12_whyCall 7 = .ok (.iadd, 1) := by decide +kernel
theorem dX12_whyCall_8 : decode cX12_whyCall 8 = .ok (.iaload, 1) := by decide +kernel
theorem dX12_whyCall_9 : decode cX12_whyCall 9 = .ok (.iload_n 2, 1) := by decide +kernel
theorem dX12_whyCall_10 : decode cX12_whyCall 10 = .ok (.iconst 1, 1) := by decide +kernel
theorem dX12_whyCall_11 : decode cX12_whyCall 11 = .ok (.iadd, 1) := by decide +kernel
theorem dX12_whyCall_12 : decode cX12_whyCall 12 = .ok (.if_icmp .ne 7, 3) := by decide +kernel
theorem dX12_whyCall_15 : decode cX12_whyCall 15 = .ok (.iconst 1, 1) := by decide +kernel
theorem dX12_whyCall_16 : decode cX12_whyCall 16 = .ok (.goto 33, 3) := by decide +kernel
theorem dX12_whyCall_19 : decode cX12_whyCall 19 = .ok (.aload_n 0, 1) := by decide +kernel
theorem dX12_whyCall_20 : decode cX12_whyCall 20 = .ok (.iload_n 1, 1) := by decide +kernel
theorem dX12_whyCall_21 : decode cX12_whyCall 21 = .ok (.iload_n 2, 1) := by decide +kernel
theorem dX12_whyCall_22 : decode cX12_whyCall 22 = .ok (.invokevirtual 303, 3) := by decide +kernel
theorem dX12_whyCall_25 : decode cX12_whyCall 25 = .ok (.ifCond .lt 7, 3) := by decide +kernel
theorem dX12_whyCall_28 : decode cX12_whyCall 28 = .ok (.iconst 2, 1) := by decide +kernel
theorem dX12_whyCall_29 : decode cX12_whyCall 29 = .ok (.goto 20, 3) := by decide +kernel
theorem dX12_whyCall_32 : decode cX12_whyCall 32 = .ok (.aload_n 0, 1) := by decide +kernel
theorem dX12_whyCall_33 : decode cX12_whyCall 33 = .ok (.getfield 33, 3) := by decide +kernel
theorem dX12_whyCall_36 : decode cX12_whyCall 36 = .ok (.bipush 72, 2) := by decide +kernel
theorem dX12_whyCall_38 : decode cX12_whyCall 38 = .ok (.iaload, 1) := by decide +kernel
theorem dX12_whyCall_39 : decode cX12_whyCall 39 = .ok (.bipush 12, 2) := by decide +kernel
theorem dX12_whyCall_41 : decode cX12_whyCall 41 = .ok (.if_icmp .ne 7, 3) := by decide +kernel
theorem dX12_whyCall_44 : decode cX12_whyCall 44 = .ok (.iconst 3, 1) := by decide +kernel
theorem dX12_whyCall_45 : decode cX12_whyCall 45 = .ok (.goto 4, 3) := by decide +kernel
theorem dX12_whyCall_48 : decode cX12_whyCall 48 = .ok (.iconst 0, 1) := by decide +kernel
theorem dX12_whyCall_49 : decode cX12_whyCall 49 = .ok (.ireturn, 1) := by decide +kernel
theorem dX12_stands_0 : decode cX12_stands 0 = .ok (.aload_n 0, 1) := by decide +kernel
theorem dX12_stands_1 : decode cX12_stands 1 = .ok (.getfield 33, 3) := by decide +kernel
theorem dX12_stands_4 : decode cX12_stands 4 = .ok (.bipush 73, 2) := by decide +kernel
theorem dX12_stands_6 : decode cX12_stands 6 = .ok (.iload_n 1, 1) := by decide +kernel
theorem dX12_stands_7 : decode cX12_stands 7 = .ok (.iadd, 1) := by decide +kernel
theorem dX12_stands_8 : decode cX12_stands 8 = .ok (.iload_n 2, 1) := by decide +kernel
theorem dX12_stands_9 : decode cX12_stands 9 = .ok (.iastore, 1) := by decide +kernel
theorem dX12_stands_10 : decode cX12_stands 10 = .ok (.aload_n 0, 1) := by decide +kernel
theorem dX12_stands_11 : decode cX12_stands 11 = .ok (.getfield 33, 3) := by decide +kernel
theorem dX12_stands_14 : decode cX12_stands 14 = .ok (.bipush 97, 2) := by decide +kernel
theorem dX12_stands_16 : decode cX12_stands 16 = .ok (.iload_n 1, 1) := by decide +kernel
theorem dX12_stands_17 : decode cX12_stands 17 = .ok (.iadd, 1) := by decide +kernel
theorem dX12_stands_18 : decode cX12_stands 18 = .ok (.iload_n 3, 1) := by decide +kernel
theorem dX12_stands_19 : decode cX12_stands 19 = .ok (.iconst 1, 1) := by decide +kernel
theorem dX12_stands_20 : decode cX12_stands 20 = .ok (.iadd, 1) := by decide +kernel
theorem dX12_stands_21 : decode cX12_stands 21 = .ok (.iastore, 1) := by decide +kernel
theorem dX12_stands_22 : decode cX12_stands 22 = .ok (.aload_n 0, 1) := by decide +kernel
theorem dX12_stands_23 : decode cX12_stands 23 = .ok (.getfield 33, 3) := by decide +kernel
theorem dX12_stands_26 : decode cX12_stands 26 = .ok (.bipush 105, 2) := by decide +kernel
theorem dX12_stands_28 : decode cX12_stands 28 = .ok (.iload_n 1, 1) := by decide +kernel
theorem dX12_stands_29 : decode cX12_stands 29 = .ok (.iadd, 1) := by decide +kernel
theorem dX12_stands_30 : decode cX12_stands 30 = .ok (.iload_n 2, 1) := by decide +kernel
theorem dX12_stands_31 : decode cX12_stands 31 = .ok (.iconst 2, 1) := by decide +kernel
theorem dX12_stands_32 : decode cX12_stands 32 = .ok (.if_icmp .ne 12, 3) := by decide +kernel
theorem dX12_stands_35 : decode cX12_stands 35 = .ok (.aload_n 0, 1) := by decide +kernel
theorem dX12_stands_36 : decode cX12_stands 36 = .ok (.getfield 33, 3) := by decide +kernel
theorem dX12_stands_39 : decode cX12_stands 39 = .ok (.iconst 4, 1) := by decide +kernel
theorem dX12_stands_40 : decode cX12_stands 40 = .ok (.iaload, 1) := by decide +kernel
theorem dX12_stands_41 : decode cX12_stands 41 = .ok (.goto 4, 3) := by decide +kernel
theorem dX12_stands_44 : decode cX12_stands 44 = .ok (.iconst 0, 1) := by decide +kernel
theorem dX12_stands_45 : decode cX12_stands 45 = .ok (.iastore, 1) := by decide +kernel
theorem dX12_stands_46 : decode cX12_stands 46 = .ok (.return_, 1) := by decide +kernel
theorem dX12_books_0 : decode cX12_books 0 = .ok (.aload_n 0, 1) := by decide +kernel
theorem dX12_books_1 : decode cX12_books 1 = .ok (.getfield 33, 3) := by decide +kernel
theorem dX12_books_4 : decode cX12_books 4 = .ok (.sipush 137, 3) := by decide +kernel
theorem dX12_books_7 : decode cX12_books 7 = .ok (.aload_n 0, 1) := by decide +kernel
theorem dX12_books_8 : decode cX12_books 8 = .ok (.getfield 33, 3) := by decide +kernel
theorem dX12_books_11 : decode cX12_books 11 = .ok (.bipush 72, 2) := by decide +kernel
theorem dX12_books_13 : decode cX12_books 13 = .ok (.iaload, 1) := by decide +kernel
theorem dX12_books_14 : decode cX12_books 14 = .ok (.iadd, 1) := by decide +kernel
theorem dX12_books_15 : decode cX12_books 15 = .ok (.iload_n 1, 1) := by decide +kernel
theorem dX12_books_16 : decode cX12_books 16 = .ok (.iastore, 1) := by decide +kernel
theorem dX12_books_17 : decode cX12_books 17 = .ok (.aload_n 0, 1) := by decide +kernel
theorem dX12_books_18 : decode cX12_books 18 = .ok (.getfield 33, 3) := by decide +kernel
theorem dX12_books_21 : decode cX12_books 21 = .ok (.sipush 149, 3) := by decide +kernel
theorem dX12_books_24 : decode cX12_books 24 = .ok (.aload_n 0, 1) := by decide +kernel
theorem dX12_books_25 : decode cX12_books 25 = .ok (.getfield 33, 3) := by decide +kernel
theorem dX12_books_28 : decode cX12_books 28 = .ok (.bipush 72, 2) := by decide +kernel
theorem dX12_books_30 : decode cX12_books 30 = .ok (.iaload, 1) := by decide +kernel
theorem dX12_books_31 : decode cX12_books 31 = .ok (.iadd, 1) := by decide +kernel
theorem dX12_books_32 : decode cX12_books 32 = .ok (.iload_n 2, 1) := by decide +kernel
theorem dX12_books_33 : decode cX12_books 33 = .ok (.iastore, 1) := by decide +kernel
theorem dX12_books_34 : decode cX12_books 34 = .ok (.aload_n 0, 1) := by decide +kernel
theorem dX12_books_35 : decode cX12_books 35 = .ok (.getfield 33, 3) := by decide +kernel
theorem dX12_books_38 : decode cX12_books 38 = .ok (.bipush 72, 2) := by decide +kernel
theorem dX12_books_40 : decode cX12_books 40 = .ok (.dup2, 1) := by decide +kernel
theorem dX12_books_41 : decode cX12_books 41 = .ok (.iaload, 1) := by decide +kernel
theorem dX12_books_42 : decode cX12_books 42 = .ok (.iconst 1, 1) := by decide +kernel
theorem dX12_books_43 : decode cX12_books 43 = .ok (.iadd, 1) := by decide +kernel
theorem dX12_books_44 : decode cX12_books 44 = .ok (.iastore, 1) := by decide +kernel
theorem dX12_books_45 : decode cX12_books 45 = .ok (.return_, 1) := by decide +kernel
theorem dX12_strikes_0 : decode cX12_strikes 0 = .ok (.aload_n 0, 1) := by decide +kernel
theorem dX12_strikes_1 : decode cX12_strikes 1 = .ok (.getfield 33, 3) := by decide +kernel
theorem dX12_strikes_4 : decode cX12_strikes 4 = .ok (.bipush 72, 2) := by decide +kernel
theorem dX12_strikes_6 : decode cX12_strikes 6 = .ok (.dup2, 1) := by decide +kernel
theorem dX12_strikes_7 : decode cX12_strikes 7 = .ok (.iaload, 1) := by decide +kernel
theorem dX12_strikes_8 : decode cX12_strikes 8 = .ok (.iconst 1, 1) := by decide +kernel
theorem dX12_strikes_9 : decode cX12_strikes 9 = .ok (.isub, 1) := by decide +kernel
theorem dX12_strikes_10 : decode cX12_strikes 10 = .ok (.iastore, 1) := by decide +kernel
theorem dX12_strikes_11 : decode cX12_strikes 11 = .ok (.iload_n 1, 1) := by decide +kernel
theorem dX12_strikes_12 : decode cX12_strikes 12 = .ok (.istore_n 2, 1) := by decide +kernel
theorem dX12_strikes_13 : decode cX12_strikes 13 = .ok (.iload_n 2, 1) := by decide +kernel
theorem dX12_strikes_14 : decode cX12_strikes 14 = .ok (.aload_n 0, 1) := by decide +kernel
theorem dX12_strikes_15 : decode cX12_strikes 15 = .ok (.getfield 33, 3) := by decide +kernel
theorem dX12_strikes_18 : decode cX12_strikes 18 = .ok (.bipush 72, 2) := by decide +kernel
theorem dX12_strikes_20 : decode cX12_strikes 20 = .ok (.iaload, 1) := by decide +kernel
theorem dX12_strikes_21 : decode cX12_strikes 21 = .ok (.if_icmp .ge 53, 3) := by decide +kernel
theorem dX12_strikes_24 : decode cX12_strikes 24 = .ok (.aload_n 0, 1) := by decide +kernel
theorem dX12_strikes_25 : decode cX12_strikes 25 = .ok (.getfield 33, 3) := by decide +kernel
theorem dX12_strikes_28 : decode cX12_strikes 28 = .ok (.sipush 137, 3) := by decide +kernel
theorem dX12_strikes_31 : decode cX12_strikes 31 = .ok (.iload_n 2, 1) := by decide +kernel
theorem dX12_strikes_32 : decode cX12_strikes 32 = .ok (.iadd, 1) := by decide +kernel
theorem dX12_strikes_33 : decode cX12_strikes 33 = .ok (.aload_n 0, 1) := by decide +kernel
theorem dX12_strikes_34 : decode cX12_strikes 34 = .ok (.getfield 33, 3) := by decide +kernel
theorem dX12_strikes_37 : decode cX12_strikes 37 = .ok (.sipush 137, 3) := by decide +kernel
theorem dX12_strikes_40 : decode cX12_strikes 40 = .ok (.iload_n 2, 1) := by decide +kernel
theorem dX12_strikes_41 : decode cX12_strikes 41 = .ok (.iadd, 1) := by decide +kernel
theorem dX12_strikes_42 : decode cX12_strikes 42 = .ok (.iconst 1, 1) := by decide +kernel
theorem dX12_strikes_43 : decode cX12_strikes 43 = .ok (.iadd, 1) := by decide +kernel
theorem dX12_strikes_44 : decode cX12_strikes 44 = .ok (.iaload, 1) := by decide +kernel
theorem dX12_strikes_45 : decode cX12_strikes 45 = .ok (.iastore, 1) := by decide +kernel
theorem dX12_strikes_46 : decode cX12_strikes 46 = .ok (.aload_n 0, 1) := by decide +kernel
theorem dX12_strikes_47 : decode cX12_strikes 47 = .ok (.getfield 33, 3) := by decide +kernel
theorem dX12_strikes_50 : decode cX12_strikes 50 = .ok (.sipush 149, 3) := by decide +kernel
theorem dX12_strikes_53 : decode cX12_strikes 53 = .ok (.iload_n 2, 1) := by decide +kernel
theorem dX12_strikes_54 : decode cX12_strikes 54 = .ok (.iadd, 1) := by decide +kernel
theorem dX12_strikes_55 : decode cX12_strikes 55 = .ok (.aload_n 0, 1) := by decide +kernel
theorem dX12_strikes_56 : decode cX12_strikes 56 = .ok (.getfield 33, 3) := by decide +kernel
theorem dX12_strikes_59 : decode cX12_strikes 59 = .ok (.sipush 149, 3) := by decide +kernel
theorem dX12_strikes_62 : decode cX12_strikes 62 = .ok (.iload_n 2, 1) := by decide +kernel
theorem dX12_strikes_63 : decode cX12_strikes 63 = .ok (.iadd, 1) := by decide +kernel
theorem dX12_strikes_64 : decode cX12_strikes 64 = .ok (.iconst 1, 1) := by decide +kernel
theorem dX12_strikes_65 : decode cX12_strikes 65 = .ok (.iadd, 1) := by decide +kernel
theorem dX12_strikes_66 : decode cX12_strikes 66 = .ok (.iaload, 1) := by decide +kernel
theorem dX12_strikes_67 : decode cX12_strikes 67 = .ok (.iastore, 1) := by decide +kernel
theorem dX12_strikes_68 : decode cX12_strikes 68 = .ok (.iinc 2 1, 3) := by decide +kernel
theorem dX12_strikes_71 : decode cX12_strikes 71 = .ok (.goto (-58), 3) := by decide +kernel
theorem dX12_strikes_74 : decode cX12_strikes 74 = .ok (.aload_n 0, 1) := by decide +kernel
theorem dX12_strikes_75 : decode cX12_strikes 75 = .ok (.getfield 33, 3) := by decide +kernel
theorem dX12_strikes_78 : decode cX12_strikes 78 = .ok (.sipush 137, 3) := by decide +kernel
theorem dX12_strikes_81 : decode cX12_strikes 81 = .ok (.aload_n 0, 1) := by decide +kernel
theorem dX12_strikes_82 : decode cX12_strikes 82 = .ok (.getfield 33, 3) := by decide +kernel
theorem dX12_strikes_85 : decode cX12_strikes 85 = .ok (.bipush 72, 2) := by decide +kernel
theorem dX12_strikes_87 : decode cX12_strikes 87 = .ok (.iaload, 1) := by decide +kernel
theorem dX12_strikes_88 : decode cX12_strikes 88 = .ok (.iadd, 1) := by decide +kernel
theorem dX12_strikes_89 : decode cX12_strikes 89 = .ok (.iconst 0, 1) := by decide +kernel
theorem dX12_strikes_90 : decode cX12_strikes 90 = .ok (.iastore, 1) := by decide +kernel
theorem dX12_strikes_91 : decode cX12_strikes 91 = .ok (.aload_n 0, 1) := by decide +kernel
theorem dX12_strikes_92 : decode cX12_strikes 92 = .ok (.getfield 33, 3) := by decide +kernel
theorem dX12_strikes_95 : decode cX12_strikes 95 = .ok (.sipush 149, 3) := by decide +kernel
theorem dX12_strikes_98 : decode cX12_strikes 98 = .ok (.aload_n 0, 1) := by decide +kernel
theorem dX12_strikes_99 : decode cX12_strikes 99 = .ok (.getfield 33, 3) := by decide +kernel
theorem dX12_strikes_102 : decode cX12_strikes 102 = .ok (.bipush 72, 2) := by decide +kernel
theorem dX12_strikes_104 : decode cX12_strikes 104 = .ok (.iaload, 1) := by decide +kernel
theorem dX12_strikes_105 : decode cX12_strikes 105 = .ok (.iadd, 1) := by decide +kernel
theorem dX12_strikes_106 : decode cX12_strikes 106 = .ok (.iconst 0, 1) := by decide +kernel
theorem dX12_strikes_107 : decode cX12_strikes 107 = .ok (.iastore, 1) := by decide +kernel
theorem dX12_strikes_108 : decode cX12_strikes 108 = .ok (.return_, 1) := by decide +kernel
theorem dX12_walks_0 : decode cX12_walks 0 = .ok (.aload_n 0, 1) := by decide +kernel
theorem dX12_walks_1 : decode cX12_walks 1 = .ok (.getfield 33, 3) := by decide +kernel
theorem dX12_walks_4 : decode cX12_walks 4 = .ok (.bipush 89, 2) := by decide +kernel
theorem dX12_walks_6 : decode cX12_walks 6 = .ok (.iload_n 1, 1) := by decide +kernel
theorem dX12_walks_7 : decode cX12_walks 7 = .ok (.iadd, 1) := by decide +kernel
theorem dX12_walks_8 : decode cX12_walks 8 = .ok (.iaload, 1) := by decide +kernel
theorem dX12_walks_9 : decode cX12_walks 9 = .ok (.iconst 1, 1) := by decide +kernel
theorem dX12_walks_10 : decode cX12_walks 10 = .ok (.if_icmp .le 4, 3) := by decide +kernel
theorem dX12_walks_13 : decode cX12_walks 13 = .ok (.return_, 1) := by decide +kernel
theorem dX12_walks_14 : decode cX12_walks 14 = .ok (.aload_n 0, 1) := by decide +kernel
theorem dX12_walks_15 : decode cX12_walks 15 = .ok (.getfield 33, 3) := by decide +kernel
theorem dX12_walks_18 : decode cX12_walks 18 = .ok (.bipush 81, 2) := by decide +kernel
theorem dX12_walks_20 : decode cX12_walks 20 = .ok (.iload_n 1, 1) := by decide +kernel
theorem dX12_walks_21 : decode cX12_walks 21 = .ok (.iadd, 1) := by decide +kernel
theorem dX12_walks_22 : decode cX12_walks 22 = .ok (.iaload, 1) := by decide +kernel
theorem dX12_walks_23 : decode cX12_walks 23 = .ok (.aload_n 0, 1) := by decide +kernel
theorem dX12_walks_24 : decode cX12_walks 24 = .ok (.getfield 33, 3) := by decide +kernel
theorem dX12_walks_27 : decode cX12_walks 27 = .ok (.bipush 89, 2) := by decide +kernel
theorem dX12_walks_29 : decode cX12_walks 29 = .ok (.iload_n 1, 1) := by decide +kernel
theorem dX12_walks_30 : decode cX12_walks 30 = .ok (.iadd, 1) := by decide +kernel
theorem dX12_walks_31 : decode cX12_walks 31 = .ok (.iaload, 1) := by decide +kernel
theorem dX12_walks_32 : decode cX12_walks 32 = .ok (.ifCond .ne 7, 3) := by decide +kernel
theorem dX12_walks_35 : decode cX12_walks 35 = .ok (.iconst 1, 1) := by decide +kernel
theorem dX12_walks_36 : decode cX12_walks 36 = .ok (.goto 4, 3) := by decide +kernel
theorem dX12_walks_39 : decode cX12_walks 39 = .ok (.iconst (-1), 1) := by decide +kernel
theorem dX12_walks_40 : decode cX12_walks 40 = .ok (.iadd, 1) := by decide +kernel
theorem dX12_walks_41 : decode cX12_walks 41 = .ok (.istore_n 2, 1) := by decide +kernel
theorem dX12_walks_42 : decode cX12_walks 42 = .ok (.iload_n 2, 1) := by decide +kernel
theorem dX12_walks_43 : decode cX12_walks 43 = .ok (.iconst 0, 1) := by decide +kernel
theorem dX12_walks_44 : decode cX12_walks 44 = .ok (.aload_n 0, 1) := by decide +kernel
theorem dX12_walks_45 : decode cX12_walks 45 = .ok (.getfield 33, 3) := by decide +kernel
theorem dX12_walks_48 : decode cX12_walks 48 = .ok (.iconst 2, 1) := by decide +kernel
theorem dX12_walks_49 : decode cX12_walks 49 = .ok (.iaload, 1) := by decide +kernel
theorem dX12_walks_50 : decode cX12_walks 50 = .ok (.iconst 1, 1) := by decide +kernel
theorem dX12_walks_51 : decode cX12_walks 51 = .ok (.isub, 1) := by decide +kernel
theorem dX12_walks_52 : decode cX12_walks 52 = .ok (.invokestatic 193, 3) := by decide +kernel
theorem dX12_walks_55 : decode cX12_walks 55 = .ok (.ifCond .eq 16, 3) := by decide +kernel
theorem dX12_walks_58 : decode cX12_walks 58 = .ok (.aload_n 0, 1) := by decide +kernel
theorem dX12_walks_59 : decode cX12_walks 59 = .ok (.getfield 33, 3) := by decide +kernel
theorem dX12_walks_62 : decode cX12_walks 62 = .ok (.bipush 81, 2) := by decide +kernel
theorem dX12_walks_64 : decode cX12_walks 64 = .ok (.iload_n 1, 1) := by decide +kernel
theorem dX12_walks_65 : decode cX12_walks 65 = .ok (.iadd, 1) := by decide +kernel
theorem dX12_walks_66 : decode cX12_walks 66 = .ok (.iload_n 2, 1) := by decide +kernel
theorem dX12_walks_67 : decode cX12_walks 67 = .ok (.iastore, 1) := by decide +kernel
theorem dX12_walks_68 : decode cX12_walks 68 = .ok (.goto 23, 3) := by decide +kernel
theorem dX12_walks_71 : decode cX12_walks 71 = .ok (.aload_n 0, 1) := by decide +kernel
theorem dX12_walks_72 : decode cX12_walks 72 = .ok (.getfield 33, 3) := by decide +kernel
theorem dX12_walks_75 : decode cX12_walks 75 = .ok (.bipush 89, 2) := by decide +kernel
theorem dX12_walks_77 : decode cX12_walks 77 = .ok (.iload_n 1, 1) := by decide +kernel
theorem dX12_walks_78 : decode cX12_walks 78 = .ok (.iadd, 1) := by decide +kernel
theorem dX12_walks_79 : decode cX12_walks 79 = .ok (.iconst 1, 1) := by decide +kernel
theorem dX12_walks_80 : decode cX12_walks 80 = .ok (.aload_n 0, 1) := by decide +kernel
theorem dX12_walks_81 : decode cX12_walks 81 = .ok (.getfield 33, 3) := by decide +kernel
theorem dX12_walks_84 : decode cX12_walks 84 = .ok (.bipush 89, 2) := by decide +kernel
theorem dX12_walks_86 : decode cX12_walks 86 = .ok (.iload_n 1, 1) := by decide +kernel
theorem dX12_walks_87 : decode cX12_walks 87 = .ok (.iadd, 1) := by decide +kernel
theorem dX12_walks_88 : decode cX12_walks 88 = .ok (.iaload, 1) := by decide +kernel
theorem dX12_walks_89 : decode cX12_walks 89 = .ok (.isub, 1) := by decide +kernel
theorem dX12_walks_90 : decode cX12_walks 90 = .ok (.iastore, 1) := by decide +kernel
theorem dX12_walks_91 : decode cX12_walks 91 = .ok (.return_, 1) := by decide +kernel
theorem dX12_canAnswer_0 : decode cX12_canAnswer 0 = .ok (.aload_n 0, 1) := by decide +kernel
theorem dX12_canAnswer_1 : decode cX12_canAnswer 1 = .ok (.getfield 33, 3) := by decide +kernel
theorem dX12_canAnswer_4 : decode cX12_canAnswer 4 = .ok (.bipush 81, 2) := by decide +kernel
theorem dX12_canAnswer_6 : decode cX12_canAnswer 6 = .ok (.iload_n 1, 1) := by decide +kernel
theorem dX12_canAnswer_7 : decode cX12_canAnswer 7 = .ok (.iadd, 1) := by decide +kernel
theorem dX12_canAnswer_8 : decode cX12_canAnswer 8 = .ok (.iaload, 1) := by decide +kernel
theorem dX12_canAnswer_9 : decode cX12_canAnswer 9 = .ok (.aload_n 0, 1) := by decide +kernel
theorem dX12_canAnswer_10 : decode cX12_canAnswer 10 = .ok (.getfield 33, 3) := by decide +kernel
theorem dX12_canAnswer_13 : decode cX12_canAnswer 13 = .ok (.iconst 5, 1) := by decide +kernel
theorem dX12_canAnswer_14 : decode cX12_canAnswer 14 = .ok (.iload_n 2, 1) := by decide +kernel
theorem dX12_canAnswer_15 : decode cX12_canAnswer 15 = .ok (.iadd, 1) := by decide +kernel
theorem dX12_canAnswer_16 : decode cX12_canAnswer 16 = .ok (.iaload, 1) := by decide +kernel
theorem dX12_canAnswer_17 : decode cX12_canAnswer 17 = .ok (.isub, 1) := by decide +kernel
theorem dX12_canAnswer_18 : decode cX12_canAnswer 18 = .ok (.istore_n 3, 1) := by decide +kernel
theorem dX12_canAnswer_19 : decode cX12_canAnswer 19 = .ok (.aload_n 0, 1) := by decide +kernel
theorem dX12_canAnswer_20 : decode cX12_canAnswer 20 = .ok (.getfield 33, 3) := by decide +kernel
theorem dX12_canAnswer_23 : decode cX12_canAnswer 23 = .ok (.bipush 73, 2) := by decide +kernel
theorem dX12_canAnswer_25 : decode cX12_canAnswer 25 = .ok (.iload_n 1, 1) := by decide +kernel
theorem dX12_canAnswer_26 : decode cX12_canAnswer 26 = .ok (.iadd, 1) := by decide +kernel
theorem dX12_canAnswer_27 : decode cX12_canAnswer 27 = .ok (.iaload, 1) := by decide +kernel
theorem dX12_canAnswer_28 : decode cX12_canAnswer 28 = .ok (.ifCond .ne 37, 3) := by decide +kernel
theorem dX12_canAnswer_31 : decode cX12_canAnswer 31 = .ok (.iload_n 3, 1) := by decide +kernel
theorem dX12_canAnswer_32 : decode cX12_canAnswer 32 = .ok (.aload_n 0, 1) := by decide +kernel
theorem dX12_canAnswer_33 : decode cX12_canAnswer 33 = .ok (.getfield 33, 3) := by decide +kernel
theorem dX12_canAnswer_36 : decode cX12_canAnswer 36 = .ok (.iconst 3, 1) := by decide +kernel
theorem dX12_canAnswer_37 : decode cX12_canAnswer 37 = .ok (.iaload, 1) := by decide +kernel
theorem dX12_canAnswer_38 : decode cX12_canAnswer 38 = .ok (.if_icmp .gt 27, 3) := by decide +kernel
theorem dX12_canAnswer_41 : decode cX12_canAnswer 41 = .ok (.iload_n 3, 1) := by decide +kernel
theorem dX12_canAnswer_42 : decode cX12_canAnswer 42 = .ok (.ineg, 1) := by decide +kernel
theorem dX12_canAnswer_43 : decode cX12_canAnswer 43 = .ok (.aload_n 0, 1) := by decide +kernel
theorem dX12_canAnswer_44 : decode cX12_canAnswer 44 = .ok (.getfield 33, 3) := by decide +kernel
theorem dX12_canAnswer_47 : decode cX12_canAnswer 47 = .ok (.iconst 3, 1) := by decide +kernel
theorem dX12_canAnswer_48 : decode cX12_canAnswer 48 = .ok (.iaload, 1) := by decide +kernel
theorem dX12_canAnswer_49 : decode cX12_canAnswer 49 = .ok (.if_icmp .gt 16, 3) := by decide +kernel
theorem dX12_canAnswer_52 : decode cX12_canAnswer 52 = .ok (.aload_n 0, 1) := by decide +kernel
theorem dX12_canAnswer_53 : decode cX12_canAnswer 53 = .ok (.iload_n 1, 1) := by decide +kernel
theorem dX12_canAnswer_54 : decode cX12_canAnswer 54 = .ok (.iload_n 2, 1) := by decide +kernel
theorem dX12_canAnswer_55 : decode cX12_canAnswer 55 = .ok (.invokevirtual 278, 3) := by decide +kernel
theorem dX12_canAnswer_58 : decode cX12_canAnswer 58 = .ok (.ifCond .eq 7, 3) := by decide +kernel
theorem dX12_canAnswer_61 : decode cX12_canAnswer 61 = .ok (.iconst 1, 1) := by decide +kernel
theorem dX12_canAnswer_62 : decode cX12_canAnswer 62 = .ok (.goto 4, 3) := by decide +kernel
theorem dX12_canAnswer_65 : decode cX12_canAnswer 65 = .ok (.iconst 0, 1) := by decide +kernel
theorem dX12_canAnswer_66 : decode cX12_canAnswer 66 = .ok (.ireturn, 1) := by decide +kernel
theorem dX12_answers_0 : decode cX12_answers 0 = .ok (.iconst (-1), 1) := by decide +kernel
theorem dX12_answers_1 : decode cX12_answers 1 = .ok (.istore_n 3, 1) := by decide +kernel
theorem dX12_answers_2 : decode cX12_answers 2 = .ok (.ldc_w 306, 3) := by decide +kernel
theorem dX12_answers_5 : decode cX12_answers 5 = .ok (.istore 4, 2) := by decide +kernel
theorem dX12_answers_7 : decode cX12_answers 7 = .ok (.iconst 0, 1) := by decide +kernel
theorem dX12_answers_8 : decode cX12_answers 8 = .ok (.istore 5, 2) := by decide +kernel
theorem dX12_answers_10 : decode cX12_answers 10 = .ok (.iload 5, 2) := by decide +kernel
theorem dX12_answers_12 : decode cX12_answers 12 = .ok (.aload_n 0, 1) := by decide +kernel
theorem dX12_answers_13 : decode cX12_answers 13 = .ok (.getfield 33, 3) := by decide +kernel
theorem dX12_answers_16 : decode cX12_answers 16 = .ok (.iconst 1, 1) := by decide +kernel
theorem dX12_answers_17 : decode cX12_answers 17 = .ok (.iaload, 1) := by decide +kernel
theorem dX12_answers_18 : decode cX12_answers 18 = .ok (.if_icmp .ge 84, 3) := by decide +kernel
theorem dX12_answers_21 : decode cX12_answers 21 = .ok (.iload_n 2, 1) := by decide +kernel
theorem dX12_answers_22 : decode cX12_answers 22 = .ok (.iload 5, 2) := by decide +kernel
theorem dX12_answers_24 : decode cX12_answers 24 = .ok (.invokestatic 218, 3) := by decide +kernel
theorem dX12_answers_27 : decode cX12_answers 27 = .ok (.ifCond .ne 69, 3) := by decide +kernel
theorem dX12_answers_30 : decode cX12_answers 30 = .ok (.aload_n 0, 1) := by decide +kernel
theorem dX12_answers_31 : decode cX12_answers 31 = .ok (.iload 5, 2) := by decide +kernel
theorem dX12_answers_33 : decode cX12_answers 33 = .ok (.iload_n 1, 1) := by decide +kernel
theorem dX12_answers_34 : decode cX12_answers 34 = .ok (.invokevirtual 307, 3) := by decide +kernel
theorem dX12_answers_37 : decode cX12_answers 37 = .ok (.ifCond .ne 6, 3) := by decide +kernel
theorem dX12_answers_40 : decode cX12_answers 40 = .ok (.goto 56, 3) := by decide +kernel
theorem dX12_answers_43 : decode cX12_answers 43 = .ok (.aload_n 0, 1) := by decide +kernel
theorem dX12_answers_44 : decode cX12_answers 44 = .ok (.getfield 33, 3) := by decide +kernel
theorem dX12_answers_47 : decode cX12_answers 47 = .ok (.bipush 81, 2) := by decide +kernel
theorem dX12_answers_49 : decode cX12_answers 49 = .ok (.iload 5, 2) := by decide +kernel
theorem dX12_answers_51 : decode cX12_answers 51 = .ok (.iadd, 1) := by decide +kernel
theorem dX12_answers_52 : decode cX12_answers 52 = .ok (.iaload, 1) := by decide +kernel
theorem dX12_answers_53 : decode cX12_answers 53 = .ok (.aload_n 0, 1) := by decide +kernel
theorem dX12_answers_54 : decode cX12_answers 54 = .ok (.getfield 33, 3) := by decide +kernel
theorem dX12_answers_57 : decode cX12_answers 57 = .ok (.iconst 5, 1) := by decide +kernel
theorem dX12_answers_58 : decode cX12_answers 58 = .ok (.iload_n 1, 1) := by decide +kernel
theorem dX12_answers_59 : decode cX12_answers 59 = .ok (.iadd, 1) := by decide +kernel
theorem dX12_answers_60 : decode cX12_answers 60 = .ok (.iaload, 1) := by decide +kernel
theorem dX12_answers_61 : decode cX12_answers 61 = .ok (.isub, 1) := by decide +kernel
theorem dX12_answers_62 : decode cX12_answers 62 = .ok (.istore 6, 2) := by decide +kernel
theorem dX12_answers_64 : decode cX12_answers 64 = .ok (.iload 6, 2) := by decide +kernel
theorem dX12_answers_66 : decode cX12_answers 66 = .ok (.ifCond .ge 9, 3) := by decide +kernel
theorem dX12_answers_69 : decode cX12_answers 69 = .ok (.iload 6, 2) := by decide +kernel
theorem dX12_answers_71 : decode cX12_answers 71 = .ok (.ineg, 1) := by decide +kernel
theorem dX12_answers_72 : decode cX12_answers 72 = .ok (.goto 5, 3) := by decide +kernel
theorem dX12_answers_75 : decode cX12_answers 75 = .ok (.iload 6, 2) := by decide +kernel
theorem dX12_answers_77 : decode cX12_answers 77 = .ok (.istore 7, 2) := by decide +kernel
theorem dX12_answers_79 : decode cX12_answers 79 = .ok (.iload 7, 2) := by decide +kernel
theorem dX12_answers_81 : decode cX12_answers 81 = .ok (.iload 4, 2) := by decide +kernel
theorem dX12_answers_83 : decode cX12_answers 83 = .ok (.if_icmp .lt 6, 3) := by decide +kernel
theorem dX12_answers_86 : decode cX12_answers 86 = .ok (.goto 10, 3) := by decide +kernel
theorem dX12_answers_89 : decode cX12_answers 89 = .ok (.iload 7, 2) := by decide +kernel
theorem dX12_answers_91 : decode cX12_answers 91 = .ok (.istore 4, 2) := by decide +kernel
theorem dX12_answers_93 : decode cX12_answers 93 = .ok (.iload 5, 2) := by decide +kernel
theorem dX12_answers_95 : decode cX12_answers 95 = .ok (.istore_n 3, 1) := by decide +kernel
theorem dX12_answers_96 : decode cX12_answers 96 = .ok (.iinc 5 1, 3) := by decide +kernel
theorem dX12_answers_99 : decode cX12_answers 99 = .ok (.goto (-89), 3) := by decide +kernel
theorem dX12_answers_102 : decode cX12_answers 102 = .ok (.iload_n 3, 1) := by decide +kernel
theorem dX12_answers_103 : decode cX12_answers 103 = .ok (.ireturn, 1) := by decide +kernel
theorem dX12_opens0_0 : decode cX12_opens0 0 = .ok (.aload_n 0, 1) := by decide +kernel
theorem dX12_opens0_1 : decode cX12_opens0 1 = .ok (.getfield 33, 3) := by decide +kernel
theorem dX12_opens0_4 : decode cX12_opens0 4 = .ok (.bipush 97, 2) := by decide +kernel
theorem dX12_opens0_6 : decode cX12_opens0 6 = .ok (.iload_n 2, 1) := by decide +kernel
theorem dX12_opens0_7 : decode cX12_opens0 7 = .ok (.iadd, 1) := by decide +kernel
theorem dX12_opens0_8 : decode cX12_opens0 8 = .ok (.iaload, 1) := by decide +kernel
theorem dX12_opens0_9 : decode cX12_opens0 9 = .ok (.iconst 1, 1) := by decide +kernel
theorem dX12_opens0_10 : decode cX12_opens0 10 = .ok (.isub, 1) := by decide +kernel
theorem dX12_opens0_11 : decode cX12_opens0 11 = .ok (.istore_n 3, 1) := by decide +kernel
theorem dX12_opens0_12 : decode cX12_opens0 12 = .ok (.aload_n 0, 1) := by decide +kernel
theorem dX12_opens0_13 : decode cX12_opens0 13 = .ok (.getfield 33, 3) := by decide +kernel
theorem dX12_opens0_16 : decode cX12_opens0 16 = .ok (.sipush 129, 3) := by decide +kernel
theorem dX12_opens0_19 : decode cX12_opens0 19 = .ok (.iload_n 1, 1) := by decide +kernel
theorem dX12_opens0_20 : decode cX12_opens0 20 = .ok (.iadd, 1) := by decide +kernel
theorem dX12_opens0_21 : decode cX12_opens0 21 = .ok (.dup2, 1) := by decide +kernel
theorem dX12_opens0_22 : decode cX12_opens0 22 = .ok (.iaload, 1) := by decide +kernel
theorem dX12_opens0_23 : decode cX12_opens0 23 = .ok (.iconst 1, 1) := by decide +kernel
theorem dX12_opens0_24 : decode cX12_opens0 24 = .ok (.iadd, 1) := by decide +kernel
theorem dX12_opens0_25 : decode cX12_opens0 25 = .ok (.iastore, 1) := by decide +kernel
theorem dX12_opens0_26 : decode cX12_opens0 26 = .ok (.aload_n 0, 1) := by decide +kernel
theorem dX12_opens0_27 : decode cX12_opens0 27 = .ok (.getfield 33, 3) := by decide +kernel
theorem dX12_opens0_30 : decode cX12_opens0 30 = .ok (.bipush 70, 2) := by decide +kernel
theorem dX12_opens0_32 : decode cX12_opens0 32 = .ok (.dup2, 1) := by decide +kernel
theorem dX12_opens0_33 : decode cX12_opens0 33 = .ok (.iaload, 1) := by decide +kernel
theorem dX12_opens0_34 : decode cX12_opens0 34 = .ok (.iconst 1, 1) := by decide +kernel
theorem dX12_opens0_35 : decode cX12_opens0 35 = .ok (.iadd, 1) := by decide +kernel
theorem dX12_opens0_36 : decode cX12_opens0 36 = .ok (.iastore, 1) := by decide +kernel
theorem dX12_opens0_37 : decode cX12_opens0 37 = .ok (.aload_n 0, 1) := by decide +kernel
theorem dX12_opens0_38 : decode cX12_opens0 38 = .ok (.getfield 33, 3) := by decide +kernel
theorem dX12_opens0_41 : decode cX12_opens0 41 = .ok (.bipush 35, 2) := by decide +kernel
theorem dX12_opens0_43 : decode cX12_opens0 43 = .ok (.iaload, 1) := by decide +kernel
theorem dX12_opens0_44 : decode cX12_opens0 44 = .ok (.iload_n 1, 1) := by decide +kernel
theorem dX12_opens0_45 : decode cX12_opens0 45 = .ok (.invokestatic 218, 3) := by decide +kernel
theorem dX12_opens0_48 : decode cX12_opens0 48 = .ok (.ifCond .eq 23, 3) := by decide +kernel
theorem dX12_opens0_51 : decode cX12_opens0 51 = .ok (.aload_n 0, 1) := by decide +kernel
theorem dX12_opens0_52 : decode cX12_opens0 52 = .ok (.getfield 33, 3) := by decide +kernel
theorem dX12_opens0_55 : decode cX12_opens0 55 = .ok (.bipush 113, 2) := by decide +kernel
theorem dX12_opens0_57 : decode cX12_opens0 57 = .ok (.iload_n 1, 1) := by decide +kernel
theorem dX12_opens0_58 : decode cX12_opens0 58 = .ok (.iadd, 1) := by decide +kernel
theorem dX12_opens0_59 : decode cX12_opens0 59 = .ok (.iaload, 1) := by decide +kernel
theorem dX12_opens0_60 : decode cX12_opens0 60 = .ok (.iload_n 2, 1) := by decide +kernel
theorem dX12_opens0_61 : decode cX12_opens0 61 = .ok (.invokestatic 218, 3) := by decide +kernel
theorem dX12_opens0_64 : decode cX12_opens0 64 = .ok (.ifCond .eq 7, 3) := by decide +kernel
theorem dX12_opens0_67 : decode cX12_opens0 67 = .ok (.iconst 1, 1) := by decide +kernel
theorem dX12_opens0_68 : decode cX12_opens0 68 = .ok (.goto 4, 3) := by decide +kernel
theorem dX12_opens0_71 : decode cX12_opens0 71 = .ok (.iconst 0, 1) := by decide +kernel
theorem dX12_opens0_72 : decode cX12_opens0 72 = .ok (.istore 4, 2) := by decide +kernel
theorem dX12_opens0_74 : decode cX12_opens0 74 = .ok (.aload_n 0, 1) := by decide +kernel
theorem dX12_opens0_75 : decode cX12_opens0 75 = .ok (.getfield 33, 3) := by decide +kernel
theorem dX12_opens0_78 : decode cX12_opens0 78 = .ok (.bipush 71, 2) := by decide +kernel
theorem dX12_opens0_80 : decode cX12_opens0 80 = .ok (.dup2, 1) := by decide +kernel
theorem dX12_opens0_81 : decode cX12_opens0 81 = .ok (.iaload, 1) := by decide +kernel
theorem dX12_opens0_82 : decode cX12_opens0 82 = .ok (.iload 4, 2) := by decide +kernel
theorem dX12_opens0_84 : decode cX12_opens0 84 = .ok (.ifCond .eq 7, 3) := by decide +kernel
theorem dX12_opens0_87 : decode cX12_opens0 87 = .ok (.iconst 1, 1) := by decide +kernel
theorem dX12_opens0_88 : decode cX12_opens0 88 = .ok (.goto 4, 3) := by decide +kernel
theorem dX12_opens0_91 : decode cX12_opens0 91 = .ok (.iconst 0, 1) := by decide +kernel
theorem dX12_opens0_92 : decode cX12_opens0 92 = .ok (.iadd, 1) := by decide +kernel
theorem dX12_opens0_93 : decode cX12_opens0 93 = .ok (.iastore, 1) := by decide +kernel
theorem dX12_opens0_94 : decode cX12_opens0 94 = .ok (.iload 4, 2) := by decide +kernel
theorem dX12_opens0_96 : decode cX12_opens0 96 = .ok (.ifCond .eq 13, 3) := by decide +kernel
theorem dX12_opens0_99 : decode cX12_opens0 99 = .ok (.aload_n 0, 1) := by decide +kernel
theorem dX12_opens0_100 : decode cX12_opens0 100 = .ok (.iload_n 2, 1) := by decide +kernel
theorem dX12_opens0_101 : decode cX12_opens0 101 = .ok (.iconst 0, 1) := by decide +kernel
theorem dX12_opens0_102 : decode cX12_opens0 102 = .ok (.iconst (-1), 1) := by decide +kernel
theorem dX12_opens0_103 : decode cX12_opens0 103 = .ok (.invokevirtual 310, 3) := by decide +kernel
theorem dX12_opens0_106 : decode cX12_opens0 106 = .ok (.goto 10, 3) := by decide +kernel
theorem dX12_opens0_109 : decode cX12_opens0 109 = .ok (.aload_n 0, 1) := by decide +kernel
theorem dX12_opens0_110 : decode cX12_opens0 110 = .ok (.iload_n 2, 1) := by decide +kernel
theorem dX12_opens0_111 : decode cX12_opens0 111 = .ok (.iconst 2, 1) := by decide +kernel
theorem dX12_opens0_112 : decode cX12_opens0 112 = .ok (.iload_n 3, 1) := by decide +kernel
theorem dX12_opens0_113 : decode cX12_opens0 113 = .ok (.invokevirtual 310, 3) := by decide +kernel
theorem dX12_opens0_116 : decode cX12_opens0 116 = .ok (.aload_n 0, 1) := by decide +kernel
theorem dX12_opens0_117 : decode cX12_opens0 117 = .ok (.getfield 33, 3) := by decide +kernel
theorem dX12_opens0_120 : decode cX12_opens0 120 = .ok (.bipush 113, 2) := by decide +kernel
theorem dX12_opens0_122 : decode cX12_opens0 122 = .ok (.iload_n 1, 1) := by decide +kernel
theorem dX12_opens0_123 : decode cX12_opens0 123 = .ok (.iload_n 2, 1) := by decide +kernel
theorem dX12_opens0_124 : decode cX12_opens0 124 = .ok (.invokestatic 255, 3) := by decide +kernel
theorem dX12_opens0_127 : decode cX12_opens0 127 = .ok (.iconst 0, 1) := by decide +kernel
theorem dX12_opens0_128 : decode cX12_opens0 128 = .ok (.istore 5, 2) := by decide +kernel
theorem dX12_opens0_130 : decode cX12_opens0 130 = .ok (.iload 5, 2) := by decide +kernel
theorem dX12_opens0_132 : decode cX12_opens0 132 = .ok (.aload_n 0, 1) := by decide +kernel
theorem dX12_opens0_133 : decode cX12_opens0 133 = .ok (.getfield 33, 3) := by decide +kernel
theorem dX12_opens0_136 : decode cX12_opens0 136 = .ok (.iconst 1, 1) := by decide +kernel
theorem dX12_opens0_137 : decode cX12_opens0 137 = .ok (.iaload, 1) := by decide +kernel
theorem dX12_opens0_138 : decode cX12_opens0 138 = .ok (.if_icmp .ge 37, 3) := by decide +kernel
theorem dX12_opens0_141 : decode cX12_opens0 141 = .ok (.aload_n 0, 1) := by decide +kernel
theorem dX12_opens0_142 : decode cX12_opens0 142 = .ok (.getfield 33, 3) := by decide +kernel
theorem dX12_opens0_145 : decode cX12_opens0 145 = .ok (.bipush 11, 2) := by decide +kernel
theorem dX12_opens0_147 : decode cX12_opens0 147 = .ok (.iload 5, 2) := by decide +kernel
theorem dX12_opens0_149 : decode cX12_opens0 149 = .ok (.iadd, 1) := by decide +kernel
theorem dX12_opens0_150 : decode cX12_opens0 150 = .ok (.iaload, 1) := by decide +kernel
theorem dX12_opens0_151 : decode cX12_opens0 151 = .ok (.iload_n 3, 1) := by decide +kernel
theorem dX12_opens0_152 : decode cX12_opens0 152 = .ok (.iconst 1, 1) := by decide +kernel
theorem dX12_opens0_153 : decode cX12_opens0 153 = .ok (.iadd, 1) := by decide +kernel
theorem dX12_opens0_154 : decode cX12_opens0 154 = .ok (.if_icmp .ne 15, 3) := by decide +kernel
theorem dX12_opens0_157 : decode cX12_opens0 157 = .ok (.aload_n 0, 1) := by decide +kernel
theorem dX12_opens0_158 : decode cX12_opens0 158 = .ok (.getfield 33, 3) := by decide +kernel
theorem dX12_opens0_161 : decode cX12_opens0 161 = .ok (.bipush 113, 2) := by decide +kernel
theorem dX12_opens0_163 : decode cX12_opens0 163 = .ok (.iload_n 1, 1) := by decide +kernel
theorem dX12_opens0_164 : decode cX12_opens0 164 = .ok (.iload 5, 2) := by decide +kernel
theorem dX12_opens0_166 : decode cX12_opens0 166 = .ok (.invokestatic 255, 3) := by decide +kernel
theorem dX12_opens0_169 : decode cX12_opens0 169 = .ok (.iinc 5 1, 3) := by decide +kernel
theorem dX12_opens0_172 : decode cX12_opens0 172 = .ok (.goto (-42), 3) := by decide +kernel
theorem dX12_opens0_175 : decode cX12_opens0 175 = .ok (.return_, 1) := by decide +kernel
theorem dX12_tick_0 : decode cX12_tick 0 = .ok (.iconst 0, 1) := by decide +kernel
theorem dX12_tick_1 : decode cX12_tick 1 = .ok (.istore_n 1, 1) := by decide +kernel
theorem dX12_tick_2 : decode cX12_tick 2 = .ok (.iload_n 1, 1) := by decide +kernel
theorem dX12_tick_3 : decode cX12_tick 3 = .ok (.aload_n 0, 1) := by decide +kernel
theorem dX12_tick_4 : decode cX12_tick 4 = .ok (.getfield 33, 3) := by decide +kernel
theorem dX12_tick_7 : decode cX12_tick 7 = .ok (.iconst 1, 1) := by decide +kernel
theorem dX12_tick_8 : decode cX12_tick 8 = .ok (.iaload, 1) := by decide +kernel
theorem dX12_tick_9 : decode cX12_tick 9 = .ok (.if_icmp .ge 57, 3) := by decide +kernel
theorem dX12_tick_12 : decode cX12_tick 12 = .ok (.aload_n 0, 1) := by decide +kernel
theorem dX12_tick_13 : decode cX12_tick 13 = .ok (.getfield 33, 3) := by decide +kernel
theorem dX12_tick_16 : decode cX12_tick 16 = .ok (.bipush 73, 2) := by decide +kernel
theorem dX12_tick_18 : decode cX12_tick 18 = .ok (.iload_n 1, 1) := by decide +kernel
theorem dX12_tick_19 : decode cX12_tick 19 = .ok (.iadd, 1) := by decide +kernel
theorem dX12_tick_20 : decode cX12_tick 20 = .ok (.iaload, 1) := by decide +kernel
theorem dX12_tick_21 : decode cX12_tick 21 = .ok (.iconst 2, 1) := by decide +kernel
theorem dX12_tick_22 : decode cX12_tick 22 = .ok (.if_icmp .eq 6, 3) := by decide +kernel
theorem dX12_tick_25 : decode cX12_tick 25 = .ok (.goto 35, 3) := by decide +kernel
theorem dX12_tick_28 : decode cX12_tick 28 = .ok (.aload_n 0, 1) := by decide +kernel
theorem dX12_tick_29 : decode cX12_tick 29 = .ok (.getfield 33, 3) := by decide +kernel
theorem dX12_tick_32 : decode cX12_tick 32 = .ok (.bipush 105, 2) := by decide +kernel
theorem dX12_tick_34 : decode cX12_tick 34 = .ok (.iload_n 1, 1) := by decide +kernel
theorem dX12_tick_35 : decode cX12_tick 35 = .ok (.iadd, 1) := by decide +kernel
theorem dX12_tick_36 : decode cX12_tick 36 = .ok (.dup2, 1) := by decide +kernel
theorem dX12_tick_37 : decode cX12_tick 37 = .ok (.iaload, 1) := by decide +kernel
theorem dX12_tick_38 : decode cX12_tick 38 = .ok (.iconst 1, 1) := by decide +kernel
theorem dX12_tick_39 : decode cX12_tick 39 = .ok (.isub, 1) := by decide +kernel
theorem dX12_tick_40 : decode cX12_tick 40 = .ok (.iastore, 1) := by decide +kernel
theorem dX12_tick_41 : decode cX12_tick 41 = .ok (.aload_n 0, 1) := by decide +kernel
theorem dX12_tick_42 : decode cX12_tick 42 = .ok (.getfield 33, 3) := by decide +kernel
theorem dX12_tick_45 : decode cX12_tick 45 = .ok (.bipush 105, 2) := by decide +kernel
theorem dX12_tick_47 : decode cX12_tick 47 = .ok (.iload_n 1, 1) := by decide +kernel
theorem dX12_tick_48 : decode cX12_tick 48 = .ok (.iadd, 1) := by decide +kernel
theorem dX12_tick_49 : decode cX12_tick 49 = .ok (.iaload, 1) := by decide +kernel
theorem dX12_tick_50 : decode cX12_tick 50 = .ok (.ifCond .ne 10, 3) := by decide +kernel
theorem dX12_tick_53 : decode cX12_tick 53 = .ok (.aload_n 0, 1) := by decide +kernel
theorem dX12_tick_54 : decode cX12_tick 54 = .ok (.iload_n 1, 1) := by decide +kernel
theorem dX12_tick_55 : decode cX12_tick 55 = .ok (.iconst 0, 1) := by decide +kernel
theorem dX12_tick_56 : decode cX12_tick 56 = .ok (.iconst (-1), 1) := by decide +kernel
theorem dX12_tick_57 : decode cX12_tick 57 = .ok (.invokevirtual 310, 3) := by decide +kernel
theorem dX12_tick_60 : decode cX12_tick 60 = .ok (.iinc 1 1, 3) := by decide +kernel
theorem dX12_tick_63 : decode cX12_tick 63 = .ok (.goto (-61), 3) := by decide +kernel
theorem dX12_tick_66 : decode cX12_tick 66 = .ok (.iconst 0, 1) := by decide +kernel
theorem dX12_tick_67 : decode cX12_tick 67 = .ok (.istore_n 1, 1) := by decide +kernel
theorem dX12_tick_68 : decode cX12_tick 68 = .ok (.iload_n 1, 1) := by decide +kernel
theorem dX12_tick_69 : decode cX12_tick 69 = .ok (.aload_n 0, 1) := by decide +kernel
theorem dX12_tick_70 : decode cX12_tick 70 = .ok (.getfield 33, 3) := by decide +kernel
theorem dX12_tick_73 : decode cX12_tick 73 = .ok (.iconst 1, 1) := by decide +kernel
theorem dX12_tick_74 : decode cX12_tick 74 = .ok (.iaload, 1) := by decide +kernel
theorem dX12_tick_75 : decode cX12_tick 75 = .ok (.if_icmp .ge 26, 3) := by decide +kernel
theorem dX12_tick_78 : decode cX12_tick 78 = .ok (.aload_n 0, 1) := by decide +kernel
theorem dX12_tick_79 : decode cX12_tick 79 = .ok (.getfield 33, 3) := by decide +kernel
theorem dX12_tick_82 : decode cX12_tick 82 = .ok (.bipush 73, 2) := by decide +kernel
theorem dX12_tick_84 : decode cX12_tick 84 = .ok (.iload_n 1, 1) := by decide +kernel
theorem dX12_tick_85 : decode cX12_tick 85 = .ok (.iadd, 1) := by decide +kernel
theorem dX12_tick_86 : decode cX12_tick 86 = .ok (.iaload, 1) := by decide +kernel
theorem dX12_tick_87 : decode cX12_tick 87 = .ok (.ifCond .ne 8, 3) := by decide +kernel
theorem dX12_tick_90 : decode cX12_tick 90 = .ok (.aload_n 0, 1) := by decide +kernel
theorem dX12_tick_91 : decode cX12_tick 91 = .ok (.iload_n 1, 1) := by decide +kernel
theorem dX12_tick_92 : decode cX12_tick 92 = .ok (.invokevirtual 314, 3) := by decide +kernel
theorem dX12_tick_95 : decode cX12_tick 95 = .ok (.iinc 1 1, 3) := by decide +kernel
theorem dX12_tick_98 : decode cX12_tick 98 = .ok (.goto (-30), 3) := by decide +kernel
theorem dX12_tick_101 : decode cX12_tick 101 = .ok (.iconst 0, 1) := by decide +kernel
theorem dX12_tick_102 : decode cX12_tick 102 = .ok (.istore_n 1, 1) := by decide +kernel
theorem dX12_tick_103 : decode cX12_tick 103 = .ok (.iload_n 1, 1) := by decide +kernel
theorem dX12_tick_104 : decode cX12_tick 104 = .ok (.aload_n 0, 1) := by decide +kernel
theorem dX12_tick_105 : decode cX12_tick 105 = .ok (.getfield 33, 3) := by decide +kernel
theorem dX12_tick_108 : decode cX12_tick 108 = .ok (.iconst 1, 1) := by decide +kernel
theorem dX12_tick_109 : decode cX12_tick 109 = .ok (.iaload, 1) := by decide +kernel
theorem dX12_tick_110 : decode cX12_tick 110 = .ok (.if_icmp .ge 60, 3) := by decide +kernel
theorem dX12_tick_113 : decode cX12_tick 113 = .ok (.aload_n 0, 1) := by decide +kernel
theorem dX12_tick_114 : decode cX12_tick 114 = .ok (.getfield 33, 3) := by decide +kernel
theorem dX12_tick_117 : decode cX12_tick 117 = .ok (.bipush 73, 2) := by decide +kernel
theorem dX12_tick_119 : decode cX12_tick 119 = .ok (.iload_n 1, 1) := by decide +kernel
theorem dX12_tick_120 : decode cX12_tick 120 = .ok (.iadd, 1) := by decide +kernel
theorem dX12_tick_121 : decode cX12_tick 121 = .ok (.iaload, 1) := by decide +kernel
theorem dX12_tick_122 : decode cX12_tick 122 = .ok (.ifCond .ne 12, 3) := by decide +kernel
theorem dX12_tick_125 : decode cX12_tick 125 = .ok (.aload_n 0, 1) := by decide +kernel
theorem dX12_tick_126 : decode cX12_tick 126 = .ok (.iload_n 1, 1) := by decide +kernel
theorem dX12_tick_127 : decode cX12_tick 127 = .ok (.iconst (-1), 1) := by decide +kernel
theorem dX12_tick_128 : decode cX12_tick 128 = .ok (.invokevirtual 303, 3) := by decide +kernel
theorem dX12_tick_131 : decode cX12_tick 131 = .ok (.goto 4, 3) := by decide +kernel
theorem dX12_tick_134 : decode cX12_tick 134 = .ok (.iconst (-1), 1) := by decide +kernel
theorem dX12_tick_135 : decode cX12_tick 135 = .ok (.istore_n 2, 1) := by decide +kernel
theorem dX12_tick_136 : decode cX12_tick 136 = .ok (.iload_n 2, 1) := by decide +kernel
theorem dX12_tick_137 : decode cX12_tick 137 = .ok (.ifCond .ge 6, 3) := by decide +kernel
theorem dX12_tick_140 : decode cX12_tick 140 = .ok (.goto 24, 3) := by decide +kernel
theorem dX12_tick_143 : decode cX12_tick 143 = .ok (.aload_n 0, 1) := by decide +kernel
theorem dX12_tick_144 : decode cX12_tick 144 = .ok (.iload_n 1, 1) := by decide +kernel
theorem dX12_tick_145 : decode cX12_tick 145 = .ok (.iconst 1, 1) := by decide +kernel
theorem dX12_tick_146 : decode cX12_tick 146 = .ok (.aload_n 0, 1) := by decide +kernel
theorem dX12_tick_147 : decode cX12_tick 147 = .ok (.getfield 33, 3) := by decide +kernel
theorem dX12_tick_150 : decode cX12_tick 150 = .ok (.sipush 149, 3) := by decide +kernel
theorem dX12_tick_153 : decode cX12_tick 153 = .ok (.iload_n 2, 1) := by decide +kernel
theorem dX12_tick_154 : decode cX12_tick 154 = .ok (.iadd, 1) := by decide +kernel
theorem dX12_tick_155 : decode cX12_tick 155 = .ok (.iaload, 1) := by decide +kernel
theorem dX12_tick_156 : decode cX12_tick 156 = .ok (.invokevirtual 310, 3) := by decide +kernel
theorem dX12_tick_159 : decode cX12_tick 159 = .ok (.aload_n 0, 1) := by decide +kernel
theorem dX12_tick_160 : decode cX12_tick 160 = .ok (.iload_n 2, 1) := by decide +kernel
theorem dX12_tick_161 : decode cX12_tick 161 = .ok (.invokevirtual 317, 3) := by decide +kernel
theorem dX12_tick_164 : decode cX12_tick 164 = .ok (.iinc 1 1, 3) := by decide +kernel
theorem dX12_tick_167 : decode cX12_tick 167 = .ok (.goto (-64), 3) := by decide +kernel
theorem dX12_tick_170 : decode cX12_tick 170 = .ok (.iconst 0, 1) := by decide +kernel
theorem dX12_tick_171 : decode cX12_tick 171 = .ok (.istore_n 1, 1) := by decide +kernel
theorem dX12_tick_172 : decode cX12_tick 172 = .ok (.iconst 0, 1) := by decide +kernel
theorem dX12_tick_173 : decode cX12_tick 173 = .ok (.istore_n 2, 1) := by decide +kernel
theorem dX12_tick_174 : decode cX12_tick 174 = .ok (.iload_n 2, 1) := by decide +kernel
theorem dX12_tick_175 : decode cX12_tick 175 = .ok (.aload_n 0, 1) := by decide +kernel
theorem dX12_tick_176 : decode cX12_tick 176 = .ok (.getfield 33, 3) := by decide +kernel
theorem dX12_tick_179 : decode cX12_tick 179 = .ok (.iconst 1, 1) := by decide +kernel
theorem dX12_tick_180 : decode cX12_tick 180 = .ok (.iaload, 1) := by decide +kernel
theorem dX12_tick_181 : decode cX12_tick 181 = .ok (.if_icmp .ge 74, 3) := by decide +kernel
theorem dX12_tick_184 : decode cX12_tick 184 = .ok (.aload_n 0, 1) := by decide +kernel
theorem dX12_tick_185 : decode cX12_tick 185 = .ok (.getfield 33, 3) := by decide +kernel
theorem dX12_tick_188 : decode cX12_tick 188 = .ok (.bipush 73, 2) := by decide +kernel
theorem dX12_tick_190 : decode cX12_tick 190 = .ok (.iload_n 2, 1) := by decide +kernel
theorem dX12_tick_191 : decode cX12_tick 191 = .ok (.iadd, 1) := by decide +kernel
theorem dX12_tick_192 : decode cX12_tick 192 = .ok (.iaload, 1) := by decide +kernel
theorem dX12_tick_193 : decode cX12_tick 193 = .ok (.iconst 1, 1) := by decide +kernel
theorem dX12_tick_194 : decode cX12_tick 194 = .ok (.if_icmp .eq 6, 3) := by decide +kernel
theorem dX12_tick_197 : decode cX12_tick 197 = .ok (.goto 52, 3) := by decide +kernel
theorem dX12_tick_200 : decode cX12_tick 200 = .ok (.aload_n 0, 1) := by decide +kernel
theorem dX12_tick_201 : decode cX12_tick 201 = .ok (.aload_n 0, 1) := by decide +kernel
theorem dX12_tick_202 : decode cX12_tick 202 = .ok (.getfield 33, 3) := by decide +kernel
theorem dX12_tick_205 : decode cX12_tick 205 = .ok (.bipush 97, 2) := by decide +kernel
theorem dX12_tick_207 : decode cX12_tick 207 = .ok (.iload_n 2, 1) := by decide +kernel
theorem dX12_tick_208 : decode cX12_tick 208 = .ok (.iadd, 1) := by decide +kernel
theorem dX12_tick_209 : decode cX12_tick 209 = .ok (.iaload, 1) := by decide +kernel
theorem dX12_tick_210 : decode cX12_tick 210 = .ok (.iconst 1, 1) := by decide +kernel
theorem dX12_tick_211 : decode cX12_tick 211 = .ok (.isub, 1) := by decide +kernel
theorem dX12_tick_212 : decode cX12_tick 212 = .ok (.iload_n 1, 1) := by decide +kernel
theorem dX12_tick_213 : decode cX12_tick 213 = .ok (.invokevirtual 320, 3) := by decide +kernel
theorem dX12_tick_216 : decode cX12_tick 216 = .ok (.istore_n 3, 1) := by decide +kernel
theorem dX12_tick_217 : decode cX12_tick 217 = .ok (.iload_n 3, 1) := by decide +kernel
theorem dX12_tick_218 : decode cX12_tick 218 = .ok (.ifCond .ge 19, 3) := by decide +kernel
theorem dX12_tick_221 : decode cX12_tick 221 = .ok (.aload_n 0, 1) := by decide +kernel
theorem dX12_tick_222 : decode cX12_tick 222 = .ok (.getfield 33, 3) := by decide +kernel
theorem dX12_tick_225 : decode cX12_tick 225 = .ok (.bipush 121, 2) := by decide +kernel
theorem dX12_tick_227 : decode cX12_tick 227 = .ok (.iload_n 2, 1) := by decide +kernel
theorem dX12_tick_228 : decode cX12_tick 228 = .ok (.iadd, 1) := by decide +kernel
theorem dX12_tick_229 : decode cX12_tick 229 = .ok (.dup2, 1) := by decide +kernel
theorem dX12_tick_230 : decode cX12_tick 230 = .ok (.iaload, 1) := by decide +kernel
theorem dX12_tick_231 : decode cX12_tick 231 = .ok (.iconst 1, 1) := by decide +kernel
theorem dX12_tick_232 : decode cX12_tick 232 = .ok (.iadd, 1) := by decide +kernel
theorem dX12_tick_233 : decode cX12_tick 233 = .ok (.iastore, 1) := by decide +kernel
theorem dX12_tick_234 : decode cX12_tick 234 = .ok (.goto 15, 3) := by decide +kernel
theorem dX12_tick_237 : decode cX12_tick 237 = .ok (.iload_n 1, 1) := by decide +kernel
theorem dX12_tick_238 : decode cX12_tick 238 = .ok (.iconst 1, 1) := by decide +kernel
theorem dX12_tick_239 : decode cX12_tick 239 = .ok (.iload_n 3, 1) := by decide +kernel
theorem dX12_tick_240 : decode cX12_tick 240 = .ok (.ishl, 1) := by decide +kernel
theorem dX12_tick_241 : decode cX12_tick 241 = .ok (.ior, 1) := by decide +kernel
theorem dX12_tick_242 : decode cX12_tick 242 = .ok (.istore_n 1, 1) := by decide +kernel
theorem dX12_tick_243 : decode cX12_tick 243 = .ok (.aload_n 0, 1) := by decide +kernel
theorem dX12_tick_244 : decode cX12_tick 244 = .ok (.iload_n 3, 1) := by decide +kernel
theorem dX12_tick_245 : decode cX12_tick 245 = .ok (.iload_n 2, 1) := by decide +kernel
theorem dX12_tick_246 : decode cX12_tick 246 = .ok (.invokevirtual 323, 3) := by decide +kernel
theorem dX12_tick_249 : decode cX12_tick 249 = .ok (.iinc 2 1, 3) := by decide +kernel
theorem dX12_tick_252 : decode cX12_tick 252 = .ok (.goto (-78), 3) := by decide +kernel
theorem dX12_tick_255 : decode cX12_tick 255 = .ok (.aload_n 0, 1) := by decide +kernel
theorem dX12_tick_256 : decode cX12_tick 256 = .ok (.getfield 33, 3) := by decide +kernel
theorem dX12_tick_259 : decode cX12_tick 259 = .ok (.bipush 69, 2) := by decide +kernel
theorem dX12_tick_261 : decode cX12_tick 261 = .ok (.dup2, 1) := by decide +kernel
theorem dX12_tick_262 : decode cX12_tick 262 = .ok (.iaload, 1) := by decide +kernel
theorem dX12_tick_263 : decode cX12_tick 263 = .ok (.iconst 1, 1) := by decide +kernel
theorem dX12_tick_264 : decode cX12_tick 264 = .ok (.iadd, 1) := by decide +kernel
theorem dX12_tick_265 : decode cX12_tick 265 = .ok (.iastore, 1) := by decide +kernel
theorem dX12_tick_266 : decode cX12_tick 266 = .ok (.return_, 1) := by decide +kernel
theorem dX12_goesOn_0 : decode cX12_goesOn 0 = .ok (.iconst 0, 1) := by decide +kernel
theorem dX12_goesOn_1 : decode cX12_goesOn 1 = .ok (.istore_n 2, 1) := by decide +kernel
theorem dX12_goesOn_2 : decode cX12_goesOn 2 = .ok (.iload_n 2, 1) := by decide +kernel
theorem dX12_goesOn_3 : decode cX12_goesOn 3 = .ok (.iload_n 1, 1) := by decide +kernel
theorem dX12_goesOn_4 : decode cX12_goesOn 4 = .ok (.if_icmp .ge 26, 3) := by decide +kernel
theorem dX12_goesOn_7 : decode cX12_goesOn 7 = .ok (.aload_n 0, 1) := by decide +kernel
theorem dX12_goesOn_8 : decode cX12_goesOn 8 = .ok (.getfield 33, 3) := by decide +kernel
theorem dX12_goesOn_11 : decode cX12_goesOn 11 = .ok (.bipush 69, 2) := by decide +kernel
theorem dX12_goesOn_13 : decode cX12_goesOn 13 = .ok (.iaload, 1) := by decide +kernel
theorem dX12_goesOn_14 : decode cX12_goesOn 14 = .ok (.sipush 1000, 3) := by decide +kernel
theorem dX12_goesOn_17 : decode cX12_goesOn 17 = .ok (.if_icmp .ge 13, 3) := by decide +kernel
theorem dX12_goesOn_20 : decode cX12_goesOn 20 = .ok (.aload_n 0, 1) := by decide +kernel
theorem dX12_goesOn_21 : decode cX12_goesOn 21 = .ok (.invokevirtual 327, 3) := by decide +kernel
theorem dX12_goesOn_24 : decode cX12_goesOn 24 = .ok (.iinc 2 1, 3) := by decide +kernel
theorem dX12_goesOn_27 : decode cX12_goesOn 27 = .ok (.goto (-25), 3) := by decide +kernel
theorem dX12_goesOn_30 : decode cX12_goesOn 30 = .ok (.iload_n 2, 1) := by decide +kernel
theorem dX12_goesOn_31 : decode cX12_goesOn 31 = .ok (.ireturn, 1) := by decide +kernel
theorem dX12_knock_0 : decode cX12_knock 0 = .ok (.aload_n 0, 1) := by decide +kernel
theorem dX12_knock_1 : decode cX12_knock 1 = .ok (.iconst 0, 1) := by decide +kernel
theorem dX12_knock_2 : decode cX12_knock 2 = .ok (.putfield 1, 3) := by decide +kernel
theorem dX12_knock_5 : decode cX12_knock 5 = .ok (.aload_n 0, 1) := by decide +kernel
theorem dX12_knock_6 : decode cX12_knock 6 = .ok (.iload_n 1, 1) := by decide +kernel
theorem dX12_knock_7 : decode cX12_knock 7 = .ok (.invokevirtual 290, 3) := by decide +kernel
theorem dX12_knock_10 : decode cX12_knock 10 = .ok (.ifCond .eq 11, 3) := by decide +kernel
theorem dX12_knock_13 : decode cX12_knock 13 = .ok (.aload_n 0, 1) := by decide +kernel
theorem dX12_knock_14 : decode cX12_knock 14 = .ok (.iload_n 2, 1) := by decide +kernel
theorem dX12_knock_15 : decode cX12_knock 15 = .ok (.invokevirtual 284, 3) := by decide +kernel
theorem dX12_knock_18 : decode cX12_knock 18 = .ok (.ifCond .ne 5, 3) := by decide +kernel
theorem dX12_knock_21 : decode cX12_knock 21 = .ok (.iconst (-1), 1) := by decide +kernel
theorem dX12_knock_22 : decode cX12_knock 22 = .ok (.ireturn, 1) := by decide +kernel
theorem dX12_knock_23 : decode cX12_knock 23 = .ok (.aload_n 0, 1) := by decide +kernel
theorem dX12_knock_24 : decode cX12_knock 24 = .ok (.iload_n 1, 1) := by decide +kernel
theorem dX12_knock_25 : decode cX12_knock 25 = .ok (.iload_n 2, 1) := by decide +kernel
theorem dX12_knock_26 : decode cX12_knock 26 = .ok (.invokevirtual 330, 3) := by decide +kernel
theorem dX12_knock_29 : decode cX12_knock 29 = .ok (.istore_n 3, 1) := by decide +kernel
theorem dX12_knock_30 : decode cX12_knock 30 = .ok (.iload_n 3, 1) := by decide +kernel
theorem dX12_knock_31 : decode cX12_knock 31 = .ok (.ifCond .le 5, 3) := by decide +kernel
theorem dX12_knock_34 : decode cX12_knock 34 = .ok (.iload_n 3, 1) := by decide +kernel
theorem dX12_knock_35 : decode cX12_knock 35 = .ok (.ireturn, 1) := by decide +kernel
theorem dX12_knock_36 : decode cX12_knock 36 = .ok (.aload_n 0, 1) := by decide +kernel
theorem dX12_knock_37 : decode cX12_knock 37 = .ok (.invokevirtual 333, 3) := by decide +kernel
theorem dX12_knock_40 : decode cX12_knock 40 = .ok (.aload_n 0, 1) := by decide +kernel
theorem dX12_knock_41 : decode cX12_knock 41 = .ok (.iload_n 1, 1) := by decide +kernel
theorem dX12_knock_42 : decode cX12_knock 42 = .ok (.iconst 1, 1) := by decide +kernel
theorem dX12_knock_43 : decode cX12_knock 43 = .ok (.iload_n 2, 1) := by decide +kernel
theorem dX12_knock_44 : decode cX12_knock 44 = .ok (.invokevirtual 310, 3) := by decide +kernel
theorem dX12_knock_47 : decode cX12_knock 47 = .ok (.iconst 0, 1) := by decide +kernel
theorem dX12_knock_48 : decode cX12_knock 48 = .ok (.ireturn, 1) := by decide +kernel
theorem dX12_go_0 : decode cX12_go 0 = .ok (.aload_n 0, 1) := by decide +kernel
theorem dX12_go_1 : decode cX12_go 1 = .ok (.iconst 0, 1) := by decide +kernel
theorem dX12_go_2 : decode cX12_go 2 = .ok (.putfield 1, 3) := by decide +kernel
theorem dX12_go_5 : decode cX12_go 5 = .ok (.aload_n 0, 1) := by decide +kernel
theorem dX12_go_6 : decode cX12_go 6 = .ok (.iload_n 1, 1) := by decide +kernel
theorem dX12_go_7 : decode cX12_go 7 = .ok (.invokevirtual 290, 3) := by decide +kernel
theorem dX12_go_10 : decode cX12_go 10 = .ok (.ifCond .eq 12, 3) := by decide +kernel
theorem dX12_go_13 : decode cX12_go 13 = .ok (.iload_n 2, 1) := by decide +kernel
theorem dX12_go_14 : decode cX12_go 14 = .ok (.iconst 0, 1) := by decide +kernel
theorem dX12_go_15 : decode cX12_go 15 = .ok (.iconst 2, 1) := by decide +kernel
theorem dX12_go_16 : decode cX12_go 16 = .ok (.invokestatic 193, 3) := by decide +kernel
theorem dX12_go_19 : decode cX12_go 19 = .ok (.ifCond .ne 5, 3) := by decide +kernel
theorem dX12_go_22 : decode cX12_go 22 = .ok (.iconst (-1), 1) := by decide +kernel
theorem dX12_go_23 : decode cX12_go 23 = .ok (.ireturn, 1) := by decide +kernel
theorem dX12_go_24 : decode cX12_go 24 = .ok (.aload_n 0, 1) := by decide +kernel
theorem dX12_go_25 : decode cX12_go 25 = .ok (.iload_n 1, 1) := by decide +kernel
theorem dX12_go_26 : decode cX12_go 26 = .ok (.iload_n 2, 1) := by decide +kernel
theorem dX12_go_27 : decode cX12_go 27 = .ok (.invokevirtual 336, 3) := by decide +kernel
theorem dX12_go_30 : decode cX12_go 30 = .ok (.istore_n 3, 1) := by decide +kernel
theorem dX12_go_31 : decode cX12_go 31 = .ok (.iload_n 3, 1) := by decide +kernel
theorem dX12_go_32 : decode cX12_go 32 = .ok (.ifCond .le 5, 3) := by decide +kernel
theorem dX12_go_35 : decode cX12_go 35 = .ok (.iload_n 3, 1) := by decide +kernel
theorem dX12_go_36 : decode cX12_go 36 = .ok (.ireturn, 1) := by decide +kernel
theorem dX12_go_37 : decode cX12_go 37 = .ok (.aload_n 0, 1) := by decide +kernel
theorem dX12_go_38 : decode cX12_go 38 = .ok (.invokevirtual 333, 3) := by decide +kernel
theorem dX12_go_41 : decode cX12_go 41 = .ok (.aload_n 0, 1) := by decide +kernel
theorem dX12_go_42 : decode cX12_go 42 = .ok (.getfield 33, 3) := by decide +kernel
theorem dX12_go_45 : decode cX12_go 45 = .ok (.bipush 89, 2) := by decide +kernel
theorem dX12_go_47 : decode cX12_go 47 = .ok (.iload_n 1, 1) := by decide +kernel
theorem dX12_go_48 : decode cX12_go 48 = .ok (.iadd, 1) := by decide +kernel
theorem dX12_go_49 : decode cX12_go 49 = .ok (.iload_n 2, 1) := by decide +kernel
theorem dX12_go_50 : decode cX12_go 50 = .ok (.iastore, 1) := by decide +kernel
theorem dX12_go_51 : decode cX12_go 51 = .ok (.iconst 0, 1) := by decide +kernel
theorem dX12_go_52 : decode cX12_go 52 = .ok (.ireturn, 1) := by decide +kernel
theorem dX12_quit_0 : decode cX12_quit 0 = .ok (.aload_n 0, 1) := by decide +kernel
theorem dX12_quit_1 : decode cX12_quit 1 = .ok (.iconst 0, 1) := by decide +kernel
theorem dX12_quit_2 : decode cX12_quit 2 = .ok (.putfield 1, 3) := by decide +kernel
theorem dX12_quit_5 : decode cX12_quit 5 = .ok (.aload_n 0, 1) := by decide +kernel
theorem dX12_quit_6 : decode cX12_quit 6 = .ok (.iload_n 1, 1) := by decide +kernel
theorem dX12_quit_7 : decode cX12_quit 7 = .ok (.invokevirtual 290, 3) := by decide +kernel
theorem dX12_quit_10 : decode cX12_quit 10 = .ok (.ifCond .ne 5, 3) := by decide +kernel
theorem dX12_quit_13 : decode cX12_quit 13 = .ok (.iconst (-1), 1) := by decide +kernel
theorem dX12_quit_14 : decode cX12_quit 14 = .ok (.ireturn, 1) := by decide +kernel
theorem dX12_quit_15 : decode cX12_quit 15 = .ok (.aload_n 0, 1) := by decide +kernel
theorem dX12_quit_16 : decode cX12_quit 16 = .ok (.getfield 33, 3) := by decide +kernel
theorem dX12_quit_19 : decode cX12_quit 19 = .ok (.bipush 73, 2) := by decide +kernel
theorem dX12_quit_21 : decode cX12_quit 21 = .ok (.iload_n 1, 1) := by decide +kernel
theorem dX12_quit_22 : decode cX12_quit 22 = .ok (.iadd, 1) := by decide +kernel
theorem dX12_quit_23 : decode cX12_quit 23 = .ok (.iaload, 1) := by decide +kernel
theorem dX12_quit_24 : decode cX12_quit 24 = .ok (.iconst 1, 1) := by decide +kernel
theorem dX12_quit_25 : decode cX12_quit 25 = .ok (.if_icmp .eq 5, 3) := by decide +kernel
theorem dX12_quit_28 : decode cX12_quit 28 = .ok (.iconst 1, 1) := by decide +kernel
theorem dX12_quit_29 : decode cX12_quit 29 = .ok (.ireturn, 1) := by decide +kernel
theorem dX12_quit_30 : decode cX12_quit 30 = .ok (.aload_n 0, 1) := by decide +kernel
theorem dX12_quit_31 : decode cX12_quit 31 = .ok (.invokevirtual 333, 3) := by decide +kernel
theorem dX12_quit_34 : decode cX12_quit 34 = .ok (.aload_n 0, 1) := by decide +kernel
theorem dX12_quit_35 : decode cX12_quit 35 = .ok (.iload_n 1, 1) := by decide +kernel
theorem dX12_quit_36 : decode cX12_quit 36 = .ok (.iconst 0, 1) := by decide +kernel
theorem dX12_quit_37 : decode cX12_quit 37 = .ok (.iconst (-1), 1) := by decide +kernel
theorem dX12_quit_38 : decode cX12_quit 38 = .ok (.invokevirtual 310, 3) := by decide +kernel
theorem dX12_quit_41 : decode cX12_quit 41 = .ok (.iconst 0, 1) := by decide +kernel
theorem dX12_quit_42 : decode cX12_quit 42 = .ok (.ireturn, 1) := by decide +kernel
theorem dX12_meets_0 : decode cX12_meets 0 = .ok (.aload_n 0, 1) := by decide +kernel
theorem dX12_meets_1 : decode cX12_meets 1 = .ok (.iconst 0, 1) := by decide +kernel
theorem dX12_meets_2 : decode cX12_meets 2 = .ok (.putfield 1, 3) := by decide +kernel
theorem dX12_meets_5 : decode cX12_meets 5 = .ok (.aload_n 0, 1) := by decide +kernel
theorem dX12_meets_6 : decode cX12_meets 6 = .ok (.iload_n 1, 1) := by decide +kernel
theorem dX12_meets_7 : decode cX12_meets 7 = .ok (.invokevirtual 290, 3) := by decide +kernel
theorem dX12_meets_10 : decode cX12_meets 10 = .ok (.ifCond .eq 16, 3) := by decide +kernel
theorem dX12_meets_13 : decode cX12_meets 13 = .ok (.aload_n 0, 1) := by decide +kernel
theorem dX12_meets_14 : decode cX12_meets 14 = .ok (.iload_n 2, 1) := by decide +kernel
theorem dX12_meets_15 : decode cX12_meets 15 = .ok (.invokevirtual 290, 3) := by decide +kernel
theorem dX12_meets_18 : decode cX12_meets 18 = .ok (.ifCond .eq 8, 3) := by decide +kernel
theorem dX12_meets_21 : decode cX12_meets 21 = .ok (.iload_n 1, 1) := by decide +kernel
theorem dX12_meets_22 : decode cX12_meets 22 = .ok (.iload_n 2, 1) := by decide +kernel
theorem dX12_meets_23 : decode cX12_meets 23 = .ok (.if_icmp .ne 5, 3) := by decide +kernel
theorem dX12_meets_26 : decode cX12_meets 26 = .ok (.iconst (-1), 1) := by decide +kernel
theorem dX12_meets_27 : decode cX12_meets 27 = .ok (.ireturn, 1) := by decide +kernel
theorem dX12_meets_28 : decode cX12_meets 28 = .ok (.aload_n 0, 1) := by decide +kernel
theorem dX12_meets_29 : decode cX12_meets 29 = .ok (.getfield 33, 3) := by decide +kernel
theorem dX12_meets_32 : decode cX12_meets 32 = .ok (.bipush 113, 2) := by decide +kernel
theorem dX12_meets_34 : decode cX12_meets 34 = .ok (.iload_n 1, 1) := by decide +kernel
theorem dX12_meets_35 : decode cX12_meets 35 = .ok (.iadd, 1) := by decide +kernel
theorem dX12_meets_36 : decode cX12_meets 36 = .ok (.iaload, 1) := by decide +kernel
theorem dX12_meets_37 : decode cX12_meets 37 = .ok (.iload_n 2, 1) := by decide +kernel
theorem dX12_meets_38 : decode cX12_meets 38 = .ok (.invokestatic 218, 3) := by decide +kernel
theorem dX12_meets_41 : decode cX12_meets 41 = .ok (.ifCond .eq 5, 3) := by decide +kernel
theorem dX12_meets_44 : decode cX12_meets 44 = .ok (.iconst 1, 1) := by decide +kernel
theorem dX12_meets_45 : decode cX12_meets 45 = .ok (.ireturn, 1) := by decide +kernel
theorem dX12_meets_46 : decode cX12_meets 46 = .ok (.aload_n 0, 1) := by decide +kernel
theorem dX12_meets_47 : decode cX12_meets 47 = .ok (.invokevirtual 333, 3) := by decide +kernel
theorem dX12_meets_50 : decode cX12_meets 50 = .ok (.aload_n 0, 1) := by decide +kernel
theorem dX12_meets_51 : decode cX12_meets 51 = .ok (.getfield 33, 3) := by decide +kernel
theorem dX12_meets_54 : decode cX12_meets 54 = .ok (.bipush 113, 2) := by decide +kernel
theorem dX12_meets_56 : decode cX12_meets 56 = .ok (.iload_n 1, 1) := by decide +kernel
theorem dX12_meets_57 : decode cX12_meets 57 = .ok (.iload_n 2, 1) := by decide +kernel
theorem dX12_meets_58 : decode cX12_meets 58 = .ok (.invokestatic 255, 3) := by decide +kernel
theorem dX12_meets_61 : decode cX12_meets 61 = .ok (.iconst 0, 1) := by decide +kernel
theorem dX12_meets_62 : decode cX12_meets 62 = .ok (.ireturn, 1) := by decide +kernel
theorem dX12_calls_0 : decode cX12_calls 0 = .ok (.aload_n 0, 1) := by decide +kernel
theorem dX12_calls_1 : decode cX12_calls 1 = .ok (.iconst 0, 1) := by decide +kernel
theorem dX12_calls_2 : decode cX12_calls 2 = .ok (.putfield 1, 3) := by decide +kernel
theorem dX12_calls_5 : decode cX12_calls 5 = .ok (.aload_n 0, 1) := by decide +kernel
theorem dX12_calls_6 : decode cX12_calls 6 = .ok (.iload_n 1, 1) := by decide +kernel
theorem dX12_calls_7 : decode cX12_calls 7 = .ok (.invokevirtual 290, 3) := by decide +kernel
theorem dX12_calls_10 : decode cX12_calls 10 = .ok (.ifCond .eq 11, 3) := by decide +kernel
theorem dX12_calls_13 : decode cX12_calls 13 = .ok (.aload_n 0, 1) := by decide +kernel
theorem dX12_calls_14 : decode cX12_calls 14 = .ok (.iload_n 2, 1) := by decide +kernel
theorem dX12_calls_15 : decode cX12_calls 15 = .ok (.invokevirtual 284, 3) := by decide +kernel
theorem dX12_calls_18 : decode cX12_calls 18 = .ok (.ifCond .ne 5, 3) := by decide +kernel
theorem dX12_calls_21 : decode cX12_calls 21 = .ok (.iconst (-1), 1) := by decide +kernel
theorem dX12_calls_22 : decode cX12_calls 22 = .ok (.ireturn, 1) := by decide +kernel
theorem dX12_calls_23 : decode cX12_calls 23 = .ok (.aload_n 0, 1) := by decide +kernel
theorem dX12_calls_24 : decode cX12_calls 24 = .ok (.iload_n 1, 1) := by decide +kernel
theorem dX12_calls_25 : decode cX12_calls 25 = .ok (.iload_n 2, 1) := by decide +kernel
theorem dX12_calls_26 : decode cX12_calls 26 = .ok (.invokevirtual 339, 3) := by decide +kernel
theorem dX12_calls_29 : decode cX12_calls 29 = .ok (.istore_n 3, 1) := by decide +kernel
theorem dX12_calls_30 : decode cX12_calls 30 = .ok (.iload_n 3, 1) := by decide +kernel
theorem dX12_calls_31 : decode cX12_calls 31 = .ok (.ifCond .le 5, 3) := by decide +kernel
theorem dX12_calls_34 : decode cX12_calls 34 = .ok (.iload_n 3, 1) := by decide +kernel
theorem dX12_calls_35 : decode cX12_calls 35 = .ok (.ireturn, 1) := by decide +kernel
theorem dX12_calls_36 : decode cX12_calls 36 = .ok (.aload_n 0, 1) := by decide +kernel
theorem dX12_calls_37 : decode cX12_calls 37 = .ok (.invokevirtual 333, 3) := by decide +kernel
theorem dX12_calls_40 : decode cX12_calls 40 = .ok (.aload_n 0, 1) := by decide +kernel
theorem dX12_calls_41 : decode cX12_calls 41 = .ok (.iload_n 1, 1) := by decide +kernel
theorem dX12_calls_42 : decode cX12_calls 42 = .ok (.iload_n 2, 1) := by decide +kernel
theorem dX12_calls_43 : decode cX12_calls 43 = .ok (.invokevirtual 342, 3) := by decide +kernel
theorem dX12_calls_46 : decode cX12_calls 46 = .ok (.iconst 0, 1) := by decide +kernel
theorem dX12_calls_47 : decode cX12_calls 47 = .ok (.ireturn, 1) := by decide +kernel
theorem dX12_ticks_0 : decode cX12_ticks 0 = .ok (.aload_n 0, 1) := by decide +kernel
theorem dX12_ticks_1 : decode cX12_ticks 1 = .ok (.iconst 0, 1) := by decide +kernel
theorem dX12_ticks_2 : decode cX12_ticks 2 = .ok (.putfield 1, 3) := by decide +kernel
theorem dX12_ticks_5 : decode cX12_ticks 5 = .ok (.iload_n 1, 1) := by decide +kernel
theorem dX12_ticks_6 : decode cX12_ticks 6 = .ok (.iconst 1, 1) := by decide +kernel
theorem dX12_ticks_7 : decode cX12_ticks 7 = .ok (.bipush 60, 2) := by decide +kernel
theorem dX12_ticks_9 : decode cX12_ticks 9 = .ok (.invokestatic 193, 3) := by decide +kernel
theorem dX12_ticks_12 : decode cX12_ticks 12 = .ok (.ifCond .ne 5, 3) := by decide +kernel
theorem dX12_ticks_15 : decode cX12_ticks 15 = .ok (.iconst (-1), 1) := by decide +kernel
theorem dX12_ticks_16 : decode cX12_ticks 16 = .ok (.ireturn, 1) := by decide +kernel
theorem dX12_ticks_17 : decode cX12_ticks 17 = .ok (.aload_n 0, 1) := by decide +kernel
theorem dX12_ticks_18 : decode cX12_ticks 18 = .ok (.getfield 33, 3) := by decide +kernel
theorem dX12_ticks_21 : decode cX12_ticks 21 = .ok (.bipush 69, 2) := by decide +kernel
theorem dX12_ticks_23 : decode cX12_ticks 23 = .ok (.iaload, 1) := by decide +kernel
theorem dX12_ticks_24 : decode cX12_ticks 24 = .ok (.sipush 1000, 3) := by decide +kernel
theorem dX12_ticks_27 : decode cX12_ticks 27 = .ok (.if_icmp .ne 5, 3) := by decide +kernel
theorem dX12_ticks_30 : decode cX12_ticks 30 = .ok (.iconst 0, 1) := by decide +kernel
theorem dX12_ticks_31 : decode cX12_ticks 31 = .ok (.ireturn, 1) := by decide +kernel
theorem dX12_ticks_32 : decode cX12_ticks 32 = .ok (.aload_n 0, 1) := by decide +kernel
theorem dX12_ticks_33 : decode cX12_ticks 33 = .ok (.invokevirtual 333, 3) := by decide +kernel
theorem dX12_ticks_36 : decode cX12_ticks 36 = .ok (.aload_n 0, 1) := by decide +kernel
theorem dX12_ticks_37 : decode cX12_ticks 37 = .ok (.iload_n 1, 1) := by decide +kernel
theorem dX12_ticks_38 : decode cX12_ticks 38 = .ok (.invokevirtual 345, 3) := by decide +kernel
theorem dX12_ticks_41 : decode cX12_ticks 41 = .ok (.ireturn, 1) := by decide +kernel
theorem dX12_stores_0 : decode cX12_stores 0 = .ok (.aload_n 0, 1) := by decide +kernel
theorem dX12_stores_1 : decode cX12_stores 1 = .ok (.getfield 271, 3) := by decide +kernel
theorem dX12_stores_4 : decode cX12_stores 4 = .ok (.bipush 8, 2) := by decide +kernel
theorem dX12_stores_6 : decode cX12_stores 6 = .ok (.if_icmp .ne 39, 3) := by decide +kernel
theorem dX12_stores_9 : decode cX12_stores 9 = .ok (.iconst 0, 1) := by decide +kernel
theorem dX12_stores_10 : decode cX12_stores 10 = .ok (.istore_n 1, 1) := by decide +kernel
theorem dX12_stores_11 : decode cX12_stores 11 = .ok (.iload_n 1, 1) := by decide +kernel
theorem dX12_stores_12 : decode cX12_stores 12 = .ok (.sipush 644, 3) := by decide +kernel
theorem dX12_stores_15 : decode cX12_stores 15 = .ok (.if_icmp .ge 24, 3) := by decide +kernel
theorem dX12_stores_18 : decode cX12_stores 18 = .ok (.aload_n 0, 1) := by decide +kernel
theorem dX12_stores_19 : decode cX12_stores 19 = .ok (.getfield 50, 3) := by decide +kernel
theorem dX12_stores_22 : decode cX12_stores 22 = .ok (.iload_n 1, 1) := by decide +kernel
theorem dX12_stores_23 : decode cX12_stores 23 = .ok (.aload_n 0, 1) := by decide +kernel
theorem dX12_stores_24 : decode cX12_stores 24 = .ok (.getfield 50, 3) := by decide +kernel
theorem dX12_stores_27 : decode cX12_stores 27 = .ok (.iload_n 1, 1) := by decide +kernel
theorem dX12_stores_28 : decode cX12_stores 28 = .ok (.bipush 92, 2) := by decide +kernel
theorem dX12_stores_30 : decode cX12_stores 30 = .ok (.iadd, 1) := by decide +kernel
theorem dX12_stores_31 : decode cX12_stores 31 = .ok (.iaload, 1) := by decide +kernel
theorem dX12_stores_32 : decode cX12_stores 32 = .ok (.iastore, 1) := by decide +kernel
theorem dX12_stores_33 : decode cX12_stores 33 = .ok (.iinc 1 1, 3) := by decide +kernel
theorem dX12_stores_36 : decode cX12_stores 36 = .ok (.goto (-25), 3) := by decide +kernel
theorem dX12_stores_39 : decode cX12_stores 39 = .ok (.aload_n 0, 1) := by decide +kernel
theorem dX12_stores_40 : decode cX12_stores 40 = .ok (.bipush 7, 2) := by decide +kernel
theorem dX12_stores_42 : decode cX12_stores 42 = .ok (.putfield 271, 3) := by decide +kernel
theorem dX12_stores_45 : decode cX12_stores 45 = .ok (.iconst 0, 1) := by decide +kernel
theorem dX12_stores_46 : decode cX12_stores 46 = .ok (.istore_n 1, 1) := by decide +kernel
theorem dX12_stores_47 : decode cX12_stores 47 = .ok (.iload_n 1, 1) := by decide +kernel
theorem dX12_stores_48 : decode cX12_stores 48 = .ok (.bipush 92, 2) := by decide +kernel
theorem dX12_stores_50 : decode cX12_stores 50 = .ok (.if_icmp .ge 32, 3) := by decide +kernel
theorem dX12_stores_53 : decode cX12_stores 53 = .ok (.aload_n 0, 1) := by decide +kernel
theorem dX12_stores_54 : decode cX12_stores 54 = .ok (.getfield 50, 3) := by decide +kernel
theorem dX12_stores_57 : decode cX12_stores 57 = .ok (.bipush 92, 2) := by decide +kernel
theorem dX12_stores_59 : decode cX12_stores 59 = .ok (.aload_n 0, 1) := by decide +kernel
theorem dX12_stores_60 : decode cX12_stores 60 = .ok (.getfield 271, 3) := by decide +kernel
theorem dX12_stores_63 : decode cX12_stores 63 = .ok (.imul, 1) := by decide +kernel
theorem dX12_stores_64 : decode cX12_stores 64 = .ok (.iload_n 1, 1) := by decide +kernel
theorem dX12_stores_65 : decode cX12_stores 65 = .ok (.iadd, 1) := by decide +kernel
theorem dX12_stores_66 : decode cX12_stores 66 = .ok (.aload_n 0, 1) := by decide +kernel
theorem dX12_stores_67 : decode cX12_stores 67 = .ok (.getfield 33, 3) := by decide +kernel
theorem dX12_stores_70 : decode cX12_stores 70 = .ok (.bipush 69, 2) := by decide +kernel
theorem dX12_stores_72 : decode cX12_stores 72 = .ok (.iload_n 1, 1) := by decide +kernel
theorem dX12_stores_73 : decode cX12_stores 73 = .ok (.iadd, 1) := by decide +kernel
theorem dX12_stores_74 : decode cX12_stores 74 = .ok (.iaload, 1) := by decide +kernel
theorem dX12_stores_75 : decode cX12_stores 75 = .ok (.iastore, 1) := by decide +kernel
theorem dX12_stores_76 : decode cX12_stores 76 = .ok (.iinc 1 1, 3) := by decide +kernel
theorem dX12_stores_79 : decode cX12_stores 79 = .ok (.goto (-32), 3) := by decide +kernel
theorem dX12_stores_82 : decode cX12_stores 82 = .ok (.aload_n 0, 1) := by decide +kernel
theorem dX12_stores_83 : decode cX12_stores 83 = .ok (.dup, 1) := by decide +kernel
theorem dX12_stores_84 : decode cX12_stores 84 = .ok (.getfield 271, 3) := by decide +kernel
theorem dX12_stores_87 : decode cX12_stores 87 = .ok (.iconst 1, 1) := by decide +kernel
theorem dX12_stores_88 : decode cX12_stores 88 = .ok (.iadd, 1) := by decide +kernel
theorem dX12_stores_89 : decode cX12_stores 89 = .ok (.putfield 271, 3) := by decide +kernel
theorem dX12_stores_92 : decode cX12_stores 92 = .ok (.return_, 1) := by decide +kernel
theorem dX12_undo_0 : decode cX12_undo 0 = .ok (.aload_n 0, 1) := by decide +kernel
theorem dX12_undo_1 : decode cX12_undo 1 = .ok (.iconst 0, 1) := by decide +kernel
theorem dX12_undo_2 : decode cX12_undo 2 = .ok (.putfield 1, 3) := by decide +kernel
theorem dX12_undo_5 : decode cX12_undo 5 = .ok (.aload_n 0, 1) := by decide +kernel
theorem dX12_undo_6 : decode cX12_undo 6 = .ok (.getfield 271, 3) := by decide +kernel
theorem dX12_undo_9 : decode cX12_undo 9 = .ok (.ifCond .ne 5, 3) := by decide +kernel
theorem dX12_undo_12 : decode cX12_undo 12 = .ok (.iconst (-1), 1) := by decide +kernel
theorem dX12_undo_13 : decode cX12_undo 13 = .ok (.ireturn, 1) := by decide +kernel
theorem dX12_undo_14 : decode cX12_undo 14 = .ok (.aload_n 0, 1) := by decide +kernel
theorem dX12_undo_15 : decode cX12_undo 15 = .ok (.dup, 1) := by decide +kernel
theorem dX12_undo_16 : decode cX12_undo 16 = .ok (.getfield 271, 3) := by decide +kernel
theorem dX12_undo_19 : decode cX12_undo 19 = .ok (.iconst 1, 1) := by decide +kernel
theorem dX12_undo_20 : decode cX12_undo 20 = .ok (.isub, 1) := by decide +kernel
theorem dX12_undo_21 : decode cX12_undo 21 = .ok (.putfield 271, 3) := by decide +kernel
theorem dX12_undo_24 : decode cX12_undo 24 = .ok (.iconst 0, 1) := by decide +kernel
theorem dX12_undo_25 : decode cX12_undo 25 = .ok (.istore_n 1, 1) := by decide +kernel
theorem dX12_undo_26 : decode cX12_undo 26 = .ok (.iload_n 1, 1) := by decide +kernel
theorem dX12_undo_27 : decode cX12_undo 27 = .ok (.bipush 92, 2) := by decide +kernel
theorem dX12_undo_29 : decode cX12_undo 29 = .ok (.if_icmp .ge 32, 3) := by decide +kernel
theorem dX12_undo_32 : decode cX12_undo 32 = .ok (.aload_n 0, 1) := by decide +kernel
theorem dX12_undo_33 : decode cX12_undo 33 = .ok (.getfield 33, 3) := by decide +kernel
theorem dX12_undo_36 : decode cX12_undo 36 = .ok (.bipush 69, 2) := by decide +kernel
theorem dX12_undo_38 : decode cX12_undo 38 = .ok (.iload_n 1, 1) := by decide +kernel
theorem dX12_undo_39 : decode cX12_undo 39 = .ok (.iadd, 1) := by decide +kernel
theorem dX12_undo_40 : decode cX12_undo 40 = .ok (.aload_n 0, 1) := by decide +kernel
theorem dX12_undo_41 : decode cX12_undo 41 = .ok (.getfield 50, 3) := by decide +kernel
theorem dX12_undo_44 : decode cX12_undo 44 = .ok (.bipush 92, 2) := by decide +kernel
theorem dX12_undo_46 : decode cX12_undo 46 = .ok (.aload_n 0, 1) := by decide +kernel
theorem dX12_undo_47 : decode cX12_undo 47 = .ok (.getfield 271, 3) := by decide +kernel
theorem dX12_undo_50 : decode cX12_undo 50 = .ok (.imul, 1) := by decide +kernel
theorem dX12_undo_51 : decode cX12_undo 51 = .ok (.iload_n 1, 1) := by decide +kernel
theorem dX12_undo_52 : decode cX12_undo 52 = .ok (.iadd, 1) := by decide +kernel
theorem dX12_undo_53 : decode cX12_undo 53 = .ok (.iaload, 1) := by decide +kernel
theorem dX12_undo_54 : decode cX12_undo 54 = .ok (.iastore, 1) := by decide +kernel
theorem dX12_undo_55 : decode cX12_undo 55 = .ok (.iinc 1 1, 3) := by decide +kernel
theorem dX12_undo_58 : decode cX12_undo 58 = .ok (.goto (-32), 3) := by decide +kernel
theorem dX12_undo_61 : decode cX12_undo 61 = .ok (.aload_n 0, 1) := by decide +kernel
theorem dX12_undo_62 : decode cX12_undo 62 = .ok (.getfield 271, 3) := by decide +kernel
theorem dX12_undo_65 : decode cX12_undo 65 = .ok (.ireturn, 1) := by decide +kernel
theorem dX12_tries_0 : decode cX12_tries 0 = .ok (.iconst 0, 1) := by decide +kernel
theorem dX12_tries_1 : decode cX12_tries 1 = .ok (.istore_n 1, 1) := by decide +kernel
theorem dX12_tries_2 : decode cX12_tries 2 = .ok (.iload_n 1, 1) := by decide +kernel
theorem dX12_tries_3 : decode cX12_tries 3 = .ok (.bipush 92, 2) := by decide +kernel
theorem dX12_tries_5 : decode cX12_tries 5 = .ok (.if_icmp .ge 24, 3) := by decide +kernel
theorem dX12_tries_8 : decode cX12_tries 8 = .ok (.aload_n 0, 1) := by decide +kernel
theorem dX12_tries_9 : decode cX12_tries 9 = .ok (.getfield 53, 3) := by decide +kernel
theorem dX12_tries_12 : decode cX12_tries 12 = .ok (.iload_n 1, 1) := by decide +kernel
theorem dX12_tries_13 : decode cX12_tries 13 = .ok (.aload_n 0, 1) := by decide +kernel
theorem dX12_tries_14 : decode cX12_tries 14 = .ok (.getfield 33, 3) := by decide +kernel
theorem dX12_tries_17 : decode cX12_tries 17 = .ok (.bipush 69, 2) := by decide +kernel
theorem dX12_tries_19 : decode cX12_tries 19 = .ok (.iload_n 1, 1) := by decide +kernel
theorem dX12_tries_20 : decode cX12_tries 20 = .ok (.iadd, 1) := by decide +kernel
theorem dX12_tries_21 : decode cX12_tries 21 = .ok (.iaload, 1) := by decide +kernel
theorem dX12_tries_22 : decode cX12_tries 22 = .ok (.iastore, 1) := by decide +kernel
theorem dX12_tries_23 : decode cX12_tries 23 = .ok (.iinc 1 1, 3) := by decide +kernel
theorem dX12_tries_26 : decode cX12_tries 26 = .ok (.goto (-24), 3) := by decide +kernel
theorem dX12_tries_29 : decode cX12_tries 29 = .ok (.return_, 1) := by decide +kernel
theorem dX12_brings_0 : decode cX12_brings 0 = .ok (.iconst 0, 1) := by decide +kernel
theorem dX12_brings_1 : decode cX12_brings 1 = .ok (.istore_n 1, 1) := by decide +kernel
theorem dX12_brings_2 : decode cX12_brings 2 = .ok (.iload_n 1, 1) := by decide +kernel
theorem dX12_brings_3 : decode cX12_brings 3 = .ok (.bipush 92, 2) := by decide +kernel
theorem dX12_brings_5 : decode cX12_brings 5 = .ok (.if_icmp .ge 24, 3) := by decide +kernel
theorem dX12_brings_8 : decode cX12_brings 8 = .ok (.aload_n 0, 1) := by decide +kernel
theorem dX12_brings_9 : decode cX12_brings 9 = .ok (.getfield 33, 3) := by decide +kernel
theorem dX12_brings_12 : decode cX12_brings 12 = .ok (.bipush 69, 2) := by decide +kernel
theorem dX12_brings_14 : decode cX12_brings 14 = .ok (.iload_n 1, 1) := by decide +kernel
theorem dX12_brings_15 : decode cX12_brings 15 = .ok (.iadd, 1) := by decide +kernel
theorem dX12_brings_16 : decode cX12_brings 16 = .ok (.aload_n 0, 1) := by decide +kernel
theorem dX12_brings_17 : decode cX12_brings 17 = .ok (.getfield 53, 3) := by decide +kernel
theorem dX12_brings_20 : decode cX12_brings 20 = .ok (.iload_n 1, 1) := by decide +kernel
theorem dX12_brings_21 : decode cX12_brings 21 = .ok (.iaload, 1) := by decide +kernel
theorem dX12_brings_22 : decode cX12_brings 22 = .ok (.iastore, 1) := by decide +kernel
theorem dX12_brings_23 : decode cX12_brings 23 = .ok (.iinc 1 1, 3) := by decide +kernel
theorem dX12_brings_26 : decode cX12_brings 26 = .ok (.goto (-24), 3) := by decide +kernel
theorem dX12_brings_29 : decode cX12_brings 29 = .ok (.return_, 1) := by decide +kernel
theorem dX12_answer_0 : decode cX12_answer 0 = .ok (.aload_n 0, 1) := by decide +kernel
theorem dX12_answer_1 : decode cX12_answer 1 = .ok (.iconst 0, 1) := by decide +kernel
theorem dX12_answer_2 : decode cX12_answer 2 = .ok (.putfield 1, 3) := by decide +kernel
theorem dX12_answer_5 : decode cX12_answer 5 = .ok (.aload_n 0, 1) := by decide +kernel
theorem dX12_answer_6 : decode cX12_answer 6 = .ok (.iload_n 1, 1) := by decide +kernel
theorem dX12_answer_7 : decode cX12_answer 7 = .ok (.invokevirtual 290, 3) := by decide +kernel
theorem dX12_answer_10 : decode cX12_answer 10 = .ok (.ifCond .eq 35, 3) := by decide +kernel
theorem dX12_answer_13 : decode cX12_answer 13 = .ok (.aload_n 0, 1) := by decide +kernel
theorem dX12_answer_14 : decode cX12_answer 14 = .ok (.getfield 33, 3) := by decide +kernel
theorem dX12_answer_17 : decode cX12_answer 17 = .ok (.bipush 73, 2) := by decide +kernel
theorem dX12_answer_19 : decode cX12_answer 19 = .ok (.iload_n 1, 1) := by decide +kernel
theorem dX12_answer_20 : decode cX12_answer 20 = .ok (.iadd, 1) := by decide +kernel
theorem dX12_answer_21 : decode cX12_answer 21 = .ok (.iaload, 1) := by decide +kernel
theorem dX12_answer_22 : decode cX12_answer 22 = .ok (.iconst 1, 1) := by decide +kernel
theorem dX12_answer_23 : decode cX12_answer 23 = .ok (.if_icmp .ne 22, 3) := by decide +kernel
theorem dX12_answer_26 : decode cX12_answer 26 = .ok (.aload_n 0, 1) := by decide +kernel
theorem dX12_answer_27 : decode cX12_answer 27 = .ok (.aload_n 0, 1) := by decide +kernel
theorem dX12_answer_28 : decode cX12_answer 28 = .ok (.getfield 33, 3) := by decide +kernel
theorem dX12_answer_31 : decode cX12_answer 31 = .ok (.bipush 97, 2) := by decide +kernel
theorem dX12_answer_33 : decode cX12_answer 33 = .ok (.iload_n 1, 1) := by decide +kernel
theorem dX12_answer_34 : decode cX12_answer 34 = .ok (.iadd, 1) := by decide +kernel
theorem dX12_answer_35 : decode cX12_answer 35 = .ok (.iaload, 1) := by decide +kernel
theorem dX12_answer_36 : decode cX12_answer 36 = .ok (.iconst 1, 1) := by decide +kernel
theorem dX12_answer_37 : decode cX12_answer 37 = .ok (.isub, 1) := by decide +kernel
theorem dX12_answer_38 : decode cX12_answer 38 = .ok (.iconst 0, 1) := by decide +kernel
theorem dX12_answer_39 : decode cX12_answer 39 = .ok (.invokevirtual 320, 3) := by decide +kernel
theorem dX12_answer_42 : decode cX12_answer 42 = .ok (.goto 4, 3) := by decide +kernel
theorem dX12_answer_45 : decode cX12_answer 45 = .ok (.iconst (-1), 1) := by decide +kernel
theorem dX12_answer_46 : decode cX12_answer 46 = .ok (.ireturn, 1) := by decide +kernel
theorem dX12_areAnswered_0 : decode cX12_areAnswered 0 = .ok (.iconst 0, 1) := by decide +kernel
theorem dX12_areAnswered_1 : decode cX12_areAnswered 1 = .ok (.istore_n 2, 1) := by decide +kernel
theorem dX12_areAnswered_2 : decode cX12_areAnswered 2 = .ok (.iload_n 2, 1) := by decide +kernel
theorem dX12_areAnswered_3 : decode cX12_areAnswered 3 = .ok (.sipush 256, 3) := by decide +kernel
theorem dX12_areAnswered_6 : decode cX12_areAnswered 6 = .ok (.if_icmp .ge 24, 3) := by decide +kernel
theorem dX12_areAnswered_9 : decode cX12_areAnswered 9 = .ok (.aload_n 0, 1) := by decide +kernel
theorem dX12_areAnswered_10 : decode cX12_areAnswered 10 = .ok (.getfield 56, 3) := by decide +kernel
theorem dX12_areAnswered_13 : decode cX12_areAnswered 13 = .ok (.iload_n 2, 1) := by decide +kernel
theorem dX12_areAnswered_14 : decode cX12_areAnswered 14 = .ok (.iload_n 2, 1) := by decide +kernel
theorem dX12_areAnswered_15 : decode cX12_areAnswered 15 = .ok (.ifCond .ne 7, 3) := by decide +kernel
theorem dX12_areAnswered_18 : decode cX12_areAnswered 18 = .ok (.iconst 1, 1) := by decide +kernel
theorem dX12_areAnswered_19 : decode cX12_areAnswered 19 = .ok (.goto 4, 3) := by decide +kernel
theorem dX12_areAnswered_22 : decode cX12_areAnswered 22 = .ok (.iconst 0, 1) := by decide +kernel
theorem dX12_areAnswered_23 : decode cX12_areAnswered 23 = .ok (.bastore, 1) := by decide +kernel
theorem dX12_areAnswered_24 : decode cX12_areAnswered 24 = .ok (.iinc 2 1, 3) := by decide +kernel
theorem dX12_areAnswered_27 : decode cX12_areAnswered 27 = .ok (.goto (-25), 3) := by decide +kernel
theorem dX12_areAnswered_30 : decode cX12_areAnswered 30 = .ok (.iconst 0, 1) := by decide +kernel
theorem dX12_areAnswered_31 : decode cX12_areAnswered 31 = .ok (.istore_n 2, 1) := by decide +kernel
theorem dX12_areAnswered_32 : decode cX12_areAnswered 32 = .ok (.iload_n 2, 1) := by decide +kernel
theorem dX12_areAnswered_33 : decode cX12_areAnswered 33 = .ok (.aload_n 0, 1) := by decide +kernel
theorem dX12_areAnswered_34 : decode cX12_areAnswered 34 = .ok (.getfield 33, 3) := by decide +kernel
theorem dX12_areAnswered_37 : decode cX12_areAnswered 37 = .ok (.iconst 1, 1) := by decide +kernel
theorem dX12_areAnswered_38 : decode cX12_areAnswered 38 = .ok (.iaload, 1) := by decide +kernel
theorem dX12_areAnswered_39 : decode cX12_areAnswered 39 = .ok (.if_icmp .ge 120, 3) := by decide +kernel
theorem dX12_areAnswered_42 : decode cX12_areAnswered 42 = .ok (.iload_n 1, 1) := by decide +kernel
theorem dX12_areAnswered_43 : decode cX12_areAnswered 43 = .ok (.iload_n 2, 1) := by decide +kernel
theorem dX12_areAnswered_44 : decode cX12_areAnswered 44 = .ok (.invokestatic 218, 3) := by decide +kernel
theorem dX12_areAnswered_47 : decode cX12_areAnswered 47 = .ok (.ifCond .ne 6, 3) := by decide +kernel
theorem dX12_areAnswered_50 : decode cX12_areAnswered 50 = .ok (.goto 103, 3) := by decide +kernel
theorem dX12_areAnswered_53 : decode cX12_areAnswered 53 = .ok (.sipush 255, 3) := by decide +kernel
theorem dX12_areAnswered_56 : decode cX12_areAnswered 56 = .ok (.istore_n 3, 1) := by decide +kernel
theorem dX12_areAnswered_57 : decode cX12_areAnswered 57 = .ok (.iload_n 3, 1) := by decide +kernel
theorem dX12_areAnswered_58 : decode cX12_areAnswered 58 = .ok (.ifCond .lt 95, 3) := by decide +kernel
theorem dX12_areAnswered_61 : decode cX12_areAnswered 61 = .ok (.iconst 0, 1) := by decide +kernel
theorem dX12_areAnswered_62 : decode cX12_areAnswered 62 = .ok (.istore 4, 2) := by decide +kernel
theorem dX12_areAnswered_64 : decode cX12_areAnswered 64 = .ok (.iconst 0, 1) := by decide +kernel
theorem dX12_areAnswered_65 : decode cX12_areAnswered 65 = .ok (.istore 5, 2) := by decide +kernel
theorem dX12_areAnswered_67 : decode cX12_areAnswered 67 = .ok (.iload 5, 2) := by decide +kernel
theorem dX12_areAnswered_69 : decode cX12_areAnswered 69 = .ok (.aload_n 0, 1) := by decide +kernel
theorem dX12_areAnswered_70 : decode cX12_areAnswered 70 = .ok (.getfield 33, 3) := by decide +kernel
theorem dX12_areAnswered_73 : decode cX12_areAnswered 73 = .ok (.iconst 1, 1) := by decide +kernel
theorem dX12_areAnswered_74 : decode cX12_areAnswered 74 = .ok (.iaload, 1) := by decide +kernel
theorem dX12_areAnswered_75 : decode cX12_areAnswered 75 = .ok (.if_icmp .ge 64, 3) := by decide +kernel
theorem dX12_areAnswered_78 : decode cX12_areAnswered 78 = .ok (.iload 4, 2) := by decide +kernel
theorem dX12_areAnswered_80 : decode cX12_areAnswered 80 = .ok (.ifCond .ne 59, 3) := by decide +kernel
theorem dX12_areAnswered_83 : decode cX12_areAnswered 83 = .ok (.iload_n 3, 1) := by decide +kernel
theorem dX12_areAnswered_84 : decode cX12_areAnswered 84 = .ok (.iload 5, 2) := by decide +kernel
theorem dX12_areAnswered_86 : decode cX12_areAnswered 86 = .ok (.invokestatic 218, 3) := by decide +kernel
theorem dX12_areAnswered_89 : decode cX12_areAnswered 89 = .ok (.ifCond .eq 41, 3) := by decide +kernel
theorem dX12_areAnswered_92 : decode cX12_areAnswered 92 = .ok (.aload_n 0, 1) := by decide +kernel
theorem dX12_areAnswered_93 : decode cX12_areAnswered 93 = .ok (.iload 5, 2) := by decide +kernel
theorem dX12_areAnswered_95 : decode cX12_areAnswered 95 = .ok (.aload_n 0, 1) := by decide +kernel
theorem dX12_areAnswered_96 : decode cX12_areAnswered 96 = .ok (.getfield 33, 3) := by decide +kernel
theorem dX12_areAnswered_99 : decode cX12_areAnswered 99 = .ok (.bipush 97, 2) := by decide +kernel
theorem dX12_areAnswered_101 : decode cX12_areAnswered 101 = .ok (.iload_n 2, 1) := by decide +kernel
theorem dX12_areAnswered_102 : decode cX12_areAnswered 102 = .ok (.iadd, 1) := by decide +kernel
theorem dX12_areAnswered_103 : decode cX12_areAnswered 103 = .ok (.iaload, 1) := by decide +kernel
theorem dX12_areAnswered_104 : decode cX12_areAnswered 104 = .ok (.iconst 1, 1) := by decide +kernel
theorem dX12_areAnswered_105 : decode cX12_areAnswered 105 = .ok (.isub, 1) := by decide +kernel
theorem dX12_areAnswered_106 : decode cX12_areAnswered 106 = .ok (.invokevirtual 307, 3) := by decide +kernel
theorem dX12_areAnswered_109 : decode cX12_areAnswered 109 = .ok (.ifCond .eq 21, 3) := by decide +kernel
theorem dX12_areAnswered_112 : decode cX12_areAnswered 112 = .ok (.aload_n 0, 1) := by decide +kernel
theorem dX12_areAnswered_113 : decode cX12_areAnswered 113 = .ok (.getfield 56, 3) := by decide +kernel
theorem dX12_areAnswered_116 : decode cX12_areAnswered 116 = .ok (.iload_n 3, 1) := by decide +kernel
theorem dX12_areAnswered_117 : decode cX12_areAnswered 117 = .ok (.iconst 1, 1) := by decide +kernel
theorem dX12_areAnswered_118 : decode cX12_areAnswered 118 = .ok (.iload 5, 2) := by decide +kernel
theorem dX12_areAnswered_120 : decode cX12_areAnswered 120 = .ok (.ishl, 1) := by decide +kernel
theorem dX12_areAnswered_121 : decode cX12_areAnswered 121 = .ok (.ixor, 1) := by decide +kernel
theorem dX12_areAnswered_122 : decode cX12_areAnswered 122 = .ok (.baload, 1) := by decide +kernel
theorem dX12_areAnswered_123 : decode cX12_areAnswered 123 = .ok (.ifCond .eq 7, 3) := by decide +kernel
theorem dX12_areAnswered_126 : decode cX12_areAnswered 126 = .ok (.iconst 1, 1) := by decide +kernel
theorem dX12_areAnswered_127 : decode cX12_areAnswered 127 = .ok (.goto 4, 3) := by decide +kernel
theorem dX12_areAnswered_130 : decode cX12_areAnswered 130 = .ok (.iconst 0, 1) := by decide +kernel
theorem dX12_areAnswered_131 : decode cX12_areAnswered 131 = .ok (.istore 4, 2) := by decide +kernel
theorem dX12_areAnswered_133 : decode cX12_areAnswered 133 = .ok (.iinc 5 1, 3) := by decide +kernel
theorem dX12_areAnswered_136 : decode cX12_areAnswered 136 = .ok (.goto (-69), 3) := by decide +kernel
theorem dX12_areAnswered_139 : decode cX12_areAnswered 139 = .ok (.aload_n 0, 1) := by decide +kernel
theorem dX12_areAnswered_140 : decode cX12_areAnswered 140 = .ok (.getfield 56, 3) := by decide +kernel
theorem dX12_areAnswered_143 : decode cX12_areAnswered 143 = .ok (.iload_n 3, 1) := by decide +kernel
theorem dX12_areAnswered_144 : decode cX12_areAnswered 144 = .ok (.iload 4, 2) := by decide +kernel
theorem dX12_areAnswered_146 : decode cX12_areAnswered 146 = .ok (.bastore, 1) := by decide +kernel
theorem dX12_areAnswered_147 : decode cX12_areAnswered 147 = .ok (.iinc 3 (-1), 3) := by decide +kernel
theorem dX12_areAnswered_150 : decode cX12_areAnswered 150 = .ok (.goto (-93), 3) := by decide +kernel
theorem dX12_areAnswered_153 : decode cX12_areAnswered 153 = .ok (.iinc 2 1, 3) := by decide +kernel
theorem dX12_areAnswered_156 : decode cX12_areAnswered 156 = .ok (.goto (-124), 3) := by decide +kernel
theorem dX12_areAnswered_159 : decode cX12_areAnswered 159 = .ok (.iconst 0, 1) := by decide +kernel
theorem dX12_areAnswered_160 : decode cX12_areAnswered 160 = .ok (.istore_n 2, 1) := by decide +kernel
theorem dX12_areAnswered_161 : decode cX12_areAnswered 161 = .ok (.iconst 0, 1) := by decide +kernel
theorem dX12_areAnswered_162 : decode cX12_areAnswered 162 = .ok (.istore_n 3, 1) := by decide +kernel
theorem dX12_areAnswered_163 : decode cX12_areAnswered 163 = .ok (.iload_n 3, 1) := by decide +kernel
theorem dX12_areAnswered_164 : decode cX12_areAnswered 164 = .ok (.sipush 256, 3) := by decide +kernel
theorem dX12_areAnswered_167 : decode cX12_areAnswered 167 = .ok (.if_icmp .ge 28, 3) := by decide +kernel
theorem dX12_areAnswered_170 : decode cX12_areAnswered 170 = .ok (.iload_n 2, 1) := by decide +kernel
theorem dX12_areAnswered_171 : decode cX12_areAnswered 171 = .ok (.ifCond .ne 12, 3) := by decide +kernel
theorem dX12_areAnswered_174 : decode cX12_areAnswered 174 = .ok (.aload_n 0, 1) := by decide +kernel
theorem dX12_areAnswered_175 : decode cX12_areAnswered 175 = .ok (.getfield 56, 3) := by decide +kernel
theorem dX12_areAnswered_178 : decode cX12_areAnswered 178 = .ok (.iload_n 3, 1) := by decide +kernel
theorem dX12_areAnswered_179 : decode cX12_areAnswered 179 = .ok (.baload, 1) := by decide +kernel
theorem dX12_areAnswered_180 : decode cX12_areAnswered 180 = .ok (.ifCond .eq 7, 3) := by decide +kernel
theorem dX12_areAnswered_183 : decode cX12_areAnswered 183 = .ok (.iconst 1, 1) := by decide +kernel
theorem dX12_areAnswered_184 : decode cX12_areAnswered 184 = .ok (.goto 4, 3) := by decide +kernel
theorem dX12_areAnswered_187 : decode cX12_areAnswered 187 = .ok (.iconst 0, 1) := by decide +kernel
theorem dX12_areAnswered_188 : decode cX12_areAnswered 188 = .ok (.istore_n 2, 1) := by decide +kernel
theorem dX12_areAnswered_189 : decode cX12_areAnswered 189 = .ok (.iinc 3 1, 3) := by decide +kernel
theorem dX12_areAnswered_192 : decode cX12_areAnswered 192 = .ok (.goto (-29), 3) := by decide +kernel
theorem dX12_areAnswered_195 : decode cX12_areAnswered 195 = .ok (.iload_n 2, 1) := by decide +kernel
theorem dX12_areAnswered_196 : decode cX12_areAnswered 196 = .ok (.ireturn, 1) := by decide +kernel
theorem dX12_most_0 : decode cX12_most 0 = .ok (.aload_n 0, 1) := by decide +kernel
theorem dX12_most_1 : decode cX12_most 1 = .ok (.iconst 0, 1) := by decide +kernel
theorem dX12_most_2 : decode cX12_most 2 = .ok (.putfield 1, 3) := by decide +kernel
theorem dX12_most_5 : decode cX12_most 5 = .ok (.aload_n 0, 1) := by decide +kernel
theorem dX12_most_6 : decode cX12_most 6 = .ok (.iconst 1, 1) := by decide +kernel
theorem dX12_most_7 : decode cX12_most 7 = .ok (.invokevirtual 297, 3) := by decide +kernel
theorem dX12_most_10 : decode cX12_most 10 = .ok (.istore_n 1, 1) := by decide +kernel
theorem dX12_most_11 : decode cX12_most 11 = .ok (.iconst 0, 1) := by decide +kernel
theorem dX12_most_12 : decode cX12_most 12 = .ok (.istore_n 2, 1) := by decide +kernel
theorem dX12_most_13 : decode cX12_most 13 = .ok (.iconst 1, 1) := by decide +kernel
theorem dX12_most_14 : decode cX12_most 14 = .ok (.istore_n 3, 1) := by decide +kernel
theorem dX12_most_15 : decode cX12_most 15 = .ok (.iload_n 3, 1) := by decide +kernel
theorem dX12_most_16 : decode cX12_most 16 = .ok (.iload_n 1, 1) := by decide +kernel
theorem dX12_most_17 : decode cX12_most 17 = .ok (.if_icmp .gt 38, 3) := by decide +kernel
theorem dX12_most_20 : decode cX12_most 20 = .ok (.iload_n 3, 1) := by decide +kernel
theorem dX12_most_21 : decode cX12_most 21 = .ok (.iload_n 1, 1) := by decide +kernel
theorem dX12_most_22 : decode cX12_most 22 = .ok (.iconst (-1), 1) := by decide +kernel
theorem dX12_most_23 : decode cX12_most 23 = .ok (.ixor, 1) := by decide +kernel
theorem dX12_most_24 : decode cX12_most 24 = .ok (.iand, 1) := by decide +kernel
theorem dX12_most_25 : decode cX12_most 25 = .ok (.ifCond .ne 24, 3) := by decide +kernel
theorem dX12_most_28 : decode cX12_most 28 = .ok (.iload_n 3, 1) := by decide +kernel
theorem dX12_most_29 : decode cX12_most 29 = .ok (.invokestatic 348, 3) := by decide +kernel
theorem dX12_most_32 : decode cX12_most 32 = .ok (.iload_n 2, 1) := by decide +kernel
theorem dX12_most_33 : decode cX12_most 33 = .ok (.invokestatic 348, 3) := by decide +kernel
theorem dX12_most_36 : decode cX12_most 36 = .ok (.if_icmp .le 13, 3) := by decide +kernel
theorem dX12_most_39 : decode cX12_most 39 = .ok (.aload_n 0, 1) := by decide +kernel
theorem dX12_most_40 : decode cX12_most 40 = .ok (.iload_n 3, 1) := by decide +kernel
theorem dX12_most_41 : decode cX12_most 41 = .ok (.invokevirtual 351, 3) := by decide +kernel
theorem dX12_most_44 : decode cX12_most 44 = .ok (.ifCond .eq 5, 3) := by decide +kernel
theorem dX12_most_47 : decode cX12_most 47 = .ok (.iload_n 3, 1) := by decide +kernel
theorem dX12_most_48 : decode cX12_most 48 = .ok (.istore_n 2, 1) := by decide +kernel
theorem dX12_most_49 : decode cX12_most 49 = .ok (.iinc 3 1, 3) := by decide +kernel
theorem dX12_most_52 : decode cX12_most 52 = .ok (.goto (-37), 3) := by decide +kernel
theorem dX12_most_55 : decode cX12_most 55 = .ok (.aload_n 0, 1) := by decide +kernel
theorem dX12_most_56 : decode cX12_most 56 = .ok (.iconst 1, 1) := by decide +kernel
theorem dX12_most_57 : decode cX12_most 57 = .ok (.putfield 354, 3) := by decide +kernel
theorem dX12_most_60 : decode cX12_most 60 = .ok (.aload_n 0, 1) := by decide +kernel
theorem dX12_most_61 : decode cX12_most 61 = .ok (.iload_n 2, 1) := by decide +kernel
theorem dX12_most_62 : decode cX12_most 62 = .ok (.putfield 358, 3) := by decide +kernel
theorem dX12_most_65 : decode cX12_most 65 = .ok (.iload_n 2, 1) := by decide +kernel
theorem dX12_most_66 : decode cX12_most 66 = .ok (.invokestatic 348, 3) := by decide +kernel
theorem dX12_most_69 : decode cX12_most 69 = .ok (.ireturn, 1) := by decide +kernel
theorem dX12_those_0 : decode cX12_those 0 = .ok (.aload_n 0, 1) := by decide +kernel
theorem dX12_those_1 : decode cX12_those 1 = .ok (.iconst 0, 1) := by decide +kernel
theorem dX12_those_2 : decode cX12_those 2 = .ok (.putfield 1, 3) := by decide +kernel
theorem dX12_those_5 : decode cX12_those 5 = .ok (.aload_n 0, 1) := by decide +kernel
theorem dX12_those_6 : decode cX12_those 6 = .ok (.getfield 354, 3) := by decide +kernel
theorem dX12_those_9 : decode cX12_those 9 = .ok (.ifCond .eq 10, 3) := by decide +kernel
theorem dX12_those_12 : decode cX12_those 12 = .ok (.aload_n 0, 1) := by decide +kernel
theorem dX12_those_13 : decode cX12_those 13 = .ok (.getfield 358, 3) := by decide +kernel
theorem dX12_those_16 : decode cX12_those 16 = .ok (.goto 4, 3) := by decide +kernel
theorem dX12_those_19 : decode cX12_those 19 = .ok (.iconst (-1), 1) := by decide +kernel
theorem dX12_those_20 : decode cX12_those 20 = .ok (.ireturn, 1) := by decide +kernel
theorem dX12_chain_0 : decode cX12_chain 0 = .ok (.aload_n 0, 1) := by decide +kernel
theorem dX12_chain_1 : decode cX12_chain 1 = .ok (.iconst 0, 1) := by decide +kernel
theorem dX12_chain_2 : decode cX12_chain 2 = .ok (.putfield 1, 3) := by decide +kernel
theorem dX12_chain_5 : decode cX12_chain 5 = .ok (.aload_n 0, 1) := by decide +kernel
theorem dX12_chain_6 : decode cX12_chain 6 = .ok (.iload_n 1, 1) := by decide +kernel
theorem dX12_chain_7 : decode cX12_chain 7 = .ok (.invokevirtual 290, 3) := by decide +kernel
theorem dX12_chain_10 : decode cX12_chain 10 = .ok (.ifCond .eq 11, 3) := by decide +kernel
theorem dX12_chain_13 : decode cX12_chain 13 = .ok (.aload_n 0, 1) := by decide +kernel
theorem dX12_chain_14 : decode cX12_chain 14 = .ok (.iload_n 2, 1) := by decide +kernel
theorem dX12_chain_15 : decode cX12_chain 15 = .ok (.invokevirtual 290, 3) := by decide +kernel
theorem dX12_chain_18 : decode cX12_chain 18 = .ok (.ifCond .ne 5, 3) := by decide +kernel
theorem dX12_chain_21 : decode cX12_chain 21 = .ok (.iconst (-1), 1) := by decide +kernel
theorem dX12_chain_22 : decode cX12_chain 22 = .ok (.ireturn, 1) := by decide +kernel
theorem dX12_chain_23 : decode cX12_chain 23 = .ok (.iconst 0, 1) := by decide +kernel
theorem dX12_chain_24 : decode cX12_chain 24 = .ok (.istore_n 3, 1) := by decide +kernel
theorem dX12_chain_25 : decode cX12_chain 25 = .ok (.iload_n 3, 1) := by decide +kernel
theorem dX12_chain_26 : decode cX12_chain 26 = .ok (.bipush 8, 2) := by decide +kernel
theorem dX12_chain_28 : decode cX12_chain 28 = .ok (.if_icmp .ge 27, 3) := by decide +kernel
theorem dX12_chain_31 : decode cX12_chain 31 = .ok (.aload_n 0, 1) := by decide +kernel
theorem dX12_chain_32 : decode cX12_chain 32 = .ok (.getfield 60, 3) := by decide +kernel
theorem dX12_chain_35 : decode cX12_chain 35 = .ok (.iload_n 3, 1) := by decide +kernel
theorem dX12_chain_36 : decode cX12_chain 36 = .ok (.iload_n 3, 1) := by decide +kernel
theorem dX12_chain_37 : decode cX12_chain 37 = .ok (.iload_n 2, 1) := by decide +kernel
theorem dX12_chain_38 : decode cX12_chain 38 = .ok (.if_icmp .ne 7, 3) := by decide +kernel
theorem dX12_chain_41 : decode cX12_chain 41 = .ok (.iconst 0, 1) := by decide +kernel
theorem dX12_chain_42 : decode cX12_chain 42 = .ok (.goto 6, 3) := by decide +kernel
theorem dX12_chain_45 : decode cX12_chain 45 = .ok (.ldc_w 306, 3) := by decide +kernel
theorem dX12_chain_48 : decode cX12_chain 48 = .ok (.iastore, 1) := by decide +kernel
theorem dX12_chain_49 : decode cX12_chain 49 = .ok (.iinc 3 1, 3) := by decide +kernel
theorem dX12_chain_52 : decode cX12_chain 52 = .ok (.goto (-27), 3) := by decide +kernel
theorem dX12_chain_55 : decode cX12_chain 55 = .ok (.iconst 0, 1) := by decide +kernel
theorem dX12_chain_56 : decode cX12_chain 56 = .ok (.istore_n 3, 1) := by decide +kernel
theorem dX12_chain_57 : decode cX12_chain 57 = .ok (.iload_n 3, 1) := by decide +kernel
theorem dX12_chain_58 : decode cX12_chain 58 = .ok (.bipush 8, 2) := by decide +kernel
theorem dX12_chain_60 : decode cX12_chain 60 = .ok (.if_icmp .ge 102, 3) := by decide +kernel
theorem dX12_chain_63 : decode cX12_chain 63 = .ok (.iconst 0, 1) := by decide +kernel
theorem dX12_chain_64 : decode cX12_chain 64 = .ok (.istore 4, 2) := by decide +kernel
theorem dX12_chain_66 : decode cX12_chain 66 = .ok (.iload 4, 2) := by decide +kernel
theorem dX12_chain_68 : decode cX12_chain 68 = .ok (.aload_n 0, 1) := by decide +kernel
theorem dX12_chain_69 : decode cX12_chain 69 = .ok (.getfield 33, 3) := by decide +kernel
theorem dX12_chain_72 : decode cX12_chain 72 = .ok (.iconst 1, 1) := by decide +kernel
theorem dX12_chain_73 : decode cX12_chain 73 = .ok (.iaload, 1) := by decide +kernel
theorem dX12_chain_74 : decode cX12_chain 74 = .ok (.if_icmp .ge 82, 3) := by decide +kernel
theorem dX12_chain_77 : decode cX12_chain 77 = .ok (.iconst 0, 1) := by decide +kernel
theorem dX12_chain_78 : decode cX12_chain 78 = .ok (.istore 5, 2) := by decide +kernel
theorem dX12_chain_80 : decode cX12_chain 80 = .ok (.iload 5, 2) := by decide +kernel
theorem dX12_chain_82 : decode cX12_chain 82 = .ok (.aload_n 0, 1) := by decide +kernel
theorem dX12_chain_83 : decode cX12_chain 83 = .ok (.getfield 33, 3) := by decide +kernel
theorem dX12_chain_86 : decode cX12_chain 86 = .ok (.iconst 1, 1) := by decide +kernel
theorem dX12_chain_87 : decode cX12_chain 87 = .ok (.iaload, 1) := by decide +kernel
theorem dX12_chain_88 : decode cX12_chain 88 = .ok (.if_icmp .ge 62, 3) := by decide +kernel
theorem dX12_chain_91 : decode cX12_chain 91 = .ok (.aload_n 0, 1) := by decide +kernel
theorem dX12_chain_92 : decode cX12_chain 92 = .ok (.getfield 33, 3) := by decide +kernel
theorem dX12_chain_95 : decode cX12_chain 95 = .ok (.bipush 113, 2) := by decide +kernel
theorem dX12_chain_97 : decode cX12_chain 97 = .ok (.iload 4, 2) := by decide +kernel
theorem dX12_chain_99 : decode cX12_chain 99 = .ok (.iadd, 1) := by decide +kernel
theorem dX12_chain_100 : decode cX12_chain 100 = .ok (.iaload, 1) := by decide +kernel
theorem dX12_chain_101 : decode cX12_chain 101 = .ok (.iload 5, 2) := by decide +kernel
theorem dX12_chain_103 : decode cX12_chain 103 = .ok (.invokestatic 218, 3) := by decide +kernel
theorem dX12_chain_106 : decode cX12_chain 106 = .ok (.ifCond .eq 38, 3) := by decide +kernel
theorem dX12_chain_109 : decode cX12_chain 109 = .ok (.aload_n 0, 1) := by decide +kernel
theorem dX12_chain_110 : decode cX12_chain 110 = .ok (.getfield 60, 3) := by decide +kernel
theorem dX12_chain_113 : decode cX12_chain 113 = .ok (.iload 5, 2) := by decide +kernel
theorem dX12_chain_115 : decode cX12_chain 115 = .ok (.iaload, 1) := by decide +kernel
theorem dX12_chain_116 : decode cX12_chain 116 = .ok (.iconst 1, 1) := by decide +kernel
theorem dX12_chain_117 : decode cX12_chain 117 = .ok (.iadd, 1) := by decide +kernel
theorem dX12_chain_118 : decode cX12_chain 118 = .ok (.aload_n 0, 1) := by decide +kernel
theorem dX12_chain_119 : decode cX12_chain 119 = .ok (.getfield 60, 3) := by decide +kernel
theorem dX12_chain_122 : decode cX12_chain 122 = .ok (.iload 4, 2) := by decide +kernel
theorem dX12_chain_124 : decode cX12_chain 124 = .ok (.iaload, 1) := by decide +kernel
theorem dX12_chain_125 : decode cX12_chain 125 = .ok (.if_icmp .ge 19, 3) := by decide +kernel
theorem dX12_chain_128 : decode cX12_chain 128 = .ok (.aload_n 0, 1) := by decide +kernel
theorem dX12_chain_129 : decode cX12_chain 129 = .ok (.getfield 60, 3) := by decide +kernel
theorem dX12_chain_132 : decode cX12_chain 132 = .ok (.iload 4, 2) := by decide +kernel
theorem dX12_chain_134 : decode cX12_chain 134 = .ok (.aload_n 0, 1) := by decide +kernel
theorem dX12_chain_135 : decode cX12_chain 135 = .ok (.getfield 60, 3) := by decide +kernel
theorem dX12_chain_138 : decode cX12_chain 138 = .ok (.iload 5, 2) := by decide +kernel
theorem dX12_chain_140 : decode cX12_chain 140 = .ok (.iaload, 1) := by decide +kernel
theorem dX12_chain_141 : decode cX12_chain 141 = .ok (.iconst 1, 1) := by decide +kernel
theorem dX12_chain_142 : decode cX12_chain 142 = .ok (.iadd, 1) := by decide +kernel
theorem dX12_chain_143 : decode cX12_chain 143 = .ok (.iastore, 1) := by decide +kernel
theorem dX12_chain_144 : decode cX12_chain 144 = .ok (.iinc 5 1, 3) := by decide +kernel
theorem dX12_chain_147 : decode cX12_chain 147 = .ok (.goto (-67), 3) := by decide +kernel
theorem dX12_chain_150 : decode cX12_chain 150 = .ok (.iinc 4 1, 3) := by decide +kernel
theorem dX12_chain_153 : decode cX12_chain 153 = .ok (.goto (-87), 3) := by decide +kernel
theorem dX12_chain_156 : decode cX12_chain 156 = .ok (.iinc 3 1, 3) := by decide +kernel
theorem dX12_chain_159 : decode cX12_chain 159 = .ok (.goto (-102), 3) := by decide +kernel
theorem dX12_chain_162 : decode cX12_chain 162 = .ok (.aload_n 0, 1) := by decide +kernel
theorem dX12_chain_163 : decode cX12_chain 163 = .ok (.getfield 60, 3) := by decide +kernel
theorem dX12_chain_166 : decode cX12_chain 166 = .ok (.iload_n 1, 1) := by decide +kernel
theorem dX12_chain_167 : decode cX12_chain 167 = .ok (.iaload, 1) := by decide +kernel
theorem dX12_chain_168 : decode cX12_chain 168 = .ok (.istore_n 3, 1) := by decide +kernel
theorem dX12_chain_169 : decode cX12_chain 169 = .ok (.iload_n 3, 1) := by decide +kernel
theorem dX12_chain_170 : decode cX12_chain 170 = .ok (.ldc_w 306, 3) := by decide +kernel
theorem dX12_chain_173 : decode cX12_chain 173 = .ok (.if_icmp .lt 5, 3) := by decide +kernel
theorem dX12_chain_176 : decode cX12_chain 176 = .ok (.iconst (-1), 1) := by decide +kernel
theorem dX12_chain_177 : decode cX12_chain 177 = .ok (.ireturn, 1) := by decide +kernel
theorem dX12_chain_178 : decode cX12_chain 178 = .ok (.aload_n 0, 1) := by decide +kernel
theorem dX12_chain_179 : decode cX12_chain 179 = .ok (.getfield 63, 3) := by decide +kernel
theorem dX12_chain_182 : decode cX12_chain 182 = .ok (.iconst 0, 1) := by decide +kernel
theorem dX12_chain_183 : decode cX12_chain 183 = .ok (.iload_n 1, 1) := by decide +kernel
theorem dX12_chain_184 : decode cX12_chain 184 = .ok (.iastore, 1) := by decide +kernel
theorem dX12_chain_185 : decode cX12_chain 185 = .ok (.iconst 1, 1) := by decide +kernel
theorem dX12_chain_186 : decode cX12_chain 186 = .ok (.istore 4, 2) := by decide +kernel
theorem dX12_chain_188 : decode cX12_chain 188 = .ok (.iload 4, 2) := by decide +kernel
theorem dX12_chain_190 : decode cX12_chain 190 = .ok (.iload_n 3, 1) := by decide +kernel
theorem dX12_chain_191 : decode cX12_chain 191 = .ok (.if_icmp .gt 66, 3) := by decide +kernel
theorem dX12_chain_194 : decode cX12_chain 194 = .ok (.iconst 0, 1) := by decide +kernel
theorem dX12_chain_195 : decode cX12_chain 195 = .ok (.istore 5, 2) := by decide +kernel
theorem dX12_chain_197 : decode cX12_chain 197 = .ok (.aload_n 0, 1) := by decide +kernel
theorem dX12_chain_198 : decode cX12_chain 198 = .ok (.getfield 33, 3) := by decide +kernel
theorem dX12_chain_201 : decode cX12_chain 201 = .ok (.bipush 113, 2) := by decide +kernel
theorem dX12_chain_203 : decode cX12_chain 203 = .ok (.aload_n 0, 1) := by decide +kernel
theorem dX12_chain_204 : decode cX12_chain 204 = .ok (.getfield 63, 3) := by decide +kernel
theorem dX12_chain_207 : decode cX12_chain 207 = .ok (.iload 4, 2) := by decide +kernel
theorem dX12_chain_209 : decode cX12_chain 209 = .ok (.iconst 1, 1) := by decide +kernel
theorem dX12_chain_210 : decode cX12_chain 210 = .ok (.isub, 1) := by decide +kernel
theorem dX12_chain_211 : decode cX12_chain 211 = .ok (.iaload, 1) := by decide +kernel
theorem dX12_chain_212 : decode cX12_chain 212 = .ok (.iadd, 1) := by decide +kernel
theorem dX12_chain_213 : decode cX12_chain 213 = .ok (.iaload, 1) := by decide +kernel
theorem dX12_chain_214 : decode cX12_chain 214 = .ok (.iload 5, 2) := by decide +kernel
theorem dX12_chain_216 : decode cX12_chain 216 = .ok (.invokestatic 218, 3) := by decide +kernel
theorem dX12_chain_219 : decode cX12_chain 219 = .ok (.ifCond .eq 17, 3) := by decide +kernel
theorem dX12_chain_222 : decode cX12_chain 222 = .ok (.aload_n 0, 1) := by decide +kernel
theorem dX12_chain_223 : decode cX12_chain 223 = .ok (.getfield 60, 3) := by decide +kernel
theorem dX12_chain_226 : decode cX12_chain 226 = .ok (.iload 5, 2) := by decide +kernel
theorem dX12_chain_228 : decode cX12_chain 228 = .ok (.iaload, 1) := by decide +kernel
theorem dX12_chain_229 : decode cX12_chain 229 = .ok (.iload_n 3, 1) := by decide +kernel
theorem dX12_chain_230 : decode cX12_chain 230 = .ok (.iload 4, 2) := by decide +kernel
theorem dX12_chain_232 : decode cX12_chain 232 = .ok (.isub, 1) := by decide +kernel
theorem dX12_chain_233 : decode cX12_chain 233 = .ok (.if_icmp .eq 9, 3) := by decide +kernel
theorem dX12_chain_236 : decode cX12_chain 236 = .ok (.iinc 5 1, 3) := by decide +kernel
theorem dX12_chain_239 : decode cX12_chain 239 = .ok (.goto (-42), 3) := by decide +kernel
theorem dX12_chain_242 : decode cX12_chain 242 = .ok (.aload_n 0, 1) := by decide +kernel
theorem dX12_chain_243 : decode cX12_chain 243 = .ok (.getfield 63, 3) := by decide +kernel
theorem dX12_chain_246 : decode cX12_chain 246 = .ok (.iload 4, 2) := by decide +kernel
theorem dX12_chain_248 : decode cX12_chain 248 = .ok (.iload 5, 2) := by decide +kernel
theorem dX12_chain_250 : decode cX12_chain 250 = .ok (.iastore, 1) := by decide +kernel
theorem dX12_chain_251 : decode cX12_chain 251 = .ok (.iinc 4 1, 3) := by decide +kernel
theorem dX12_chain_254 : decode cX12_chain 254 = .ok (.goto (-66), 3) := by decide +kernel
theorem dX12_chain_257 : decode cX12_chain 257 = .ok (.aload_n 0, 1) := by decide +kernel
theorem dX12_chain_258 : decode cX12_chain 258 = .ok (.iload_n 3, 1) := by decide +kernel
theorem dX12_chain_259 : decode cX12_chain 259 = .ok (.iconst 1, 1) := by decide +kernel
theorem dX12_chain_260 : decode cX12_chain 260 = .ok (.iadd, 1) := by decide +kernel
theorem dX12_chain_261 : decode cX12_chain 261 = .ok (.putfield 66, 3) := by decide +kernel
theorem dX12_chain_264 : decode cX12_chain 264 = .ok (.iload_n 3, 1) := by decide +kernel
theorem dX12_chain_265 : decode cX12_chain 265 = .ok (.ireturn, 1) := by decide +kernel
theorem dX12_chainAt_0 : decode cX12_chainAt 0 = .ok (.aload_n 0, 1) := by decide +kernel
theorem dX12_chainAt_1 : decode cX12_chainAt 1 = .ok (.iconst 0, 1) := by decide +kernel
theorem dX12_chainAt_2 : decode cX12_chainAt 2 = .ok (.putfield 1, 3) := by decide +kernel
theorem dX12_chainAt_5 : decode cX12_chainAt 5 = .ok (.iload_n 1, 1) := by decide +kernel
theorem dX12_chainAt_6 : decode cX12_chainAt 6 = .ok (.iconst 0, 1) := by decide +kernel
theorem dX12_chainAt_7 : decode cX12_chainAt 7 = .ok (.aload_n 0, 1) := by decide +kernel
theorem dX12_chainAt_8 : decode cX12_chainAt 8 = .ok (.getfield 66, 3) := by decide +kernel
theorem dX12_chainAt_11 : decode cX12_chainAt 11 = .ok (.iconst 1, 1) := by decide +kernel
theorem dX12_chainAt_12 : decode cX12_chainAt 12 = .ok (.isub, 1) := by decide +kernel
theorem dX12_chainAt_13 : decode cX12_chainAt 13 = .ok (.invokestatic 193, 3) := by decide +kernel
theorem dX12_chainAt_16 : decode cX12_chainAt 16 = .ok (.ifCond .eq 12, 3) := by decide +kernel
theorem dX12_chainAt_19 : decode cX12_chainAt 19 = .ok (.aload_n 0, 1) := by decide +kernel
theorem dX12_chainAt_20 : decode cX12_chainAt 20 = .ok (.getfield 63, 3) := by decide +kernel
theorem dX12_chainAt_23 : decode cX12_chainAt 23 = .ok (.iload_n 1, 1) := by decide +kernel
theorem dX12_chainAt_24 : decode cX12_chainAt 24 = .ok (.iaload, 1) := by decide +kernel
theorem dX12_chainAt_25 : decode cX12_chainAt 25 = .ok (.goto 4, 3) := by decide +kernel
theorem dX12_chainAt_28 : decode cX12_chainAt 28 = .ok (.iconst (-1), 1) := by decide +kernel
theorem dX12_chainAt_29 : decode cX12_chainAt 29 = .ok (.ireturn, 1) := by decide +kernel
theorem dX12_isMeant_0 : decode cX12_isMeant 0 = .ok (.iconst 1, 1) := by decide +kernel
theorem dX12_isMeant_1 : decode cX12_isMeant 1 = .ok (.istore_n 2, 1) := by decide +kernel
theorem dX12_isMeant_2 : decode cX12_isMeant 2 = .ok (.iconst 0, 1) := by decide +kernel
theorem dX12_isMeant_3 : decode cX12_isMeant 3 = .ok (.istore_n 3, 1) := by decide +kernel
theorem dX12_isMeant_4 : decode cX12_isMeant 4 = .ok (.iload_n 3, 1) := by decide +kernel
theorem dX12_isMeant_5 : decode cX12_isMeant 5 = .ok (.aload_n 0, 1) := by decide +kernel
theorem dX12_isMeant_6 : decode cX12_isMeant 6 = .ok (.getfield 18, 3) := by decide +kernel
theorem dX12_isMeant_9 : decode cX12_isMeant 9 = .ok (.if_icmp .ge 55, 3) := by decide +kernel
theorem dX12_isMeant_12 : decode cX12_isMeant 12 = .ok (.iload_n 2, 1) := by decide +kernel
theorem dX12_isMeant_13 : decode cX12_isMeant 13 = .ok (.ifCond .eq 51, 3) := by decide +kernel
theorem dX12_isMeant_16 : decode cX12_isMeant 16 = .ok (.aload_n 0, 1) := by decide +kernel
theorem dX12_isMeant_17 : decode cX12_isMeant 17 = .ok (.iload_n 3, 1) := by decide +kernel
theorem dX12_isMeant_18 : decode cX12_isMeant 18 = .ok (.invokevirtual 361, 3) := by decide +kernel
theorem dX12_isMeant_21 : decode cX12_isMeant 21 = .ok (.iload_n 1, 1) := by decide +kernel
theorem dX12_isMeant_22 : decode cX12_isMeant 22 = .ok (.if_icmp .eq 34, 3) := by decide +kernel
theorem dX12_isMeant_25 : decode cX12_isMeant 25 = .ok (.aload_n 0, 1) := by decide +kernel
theorem dX12_isMeant_26 : decode cX12_isMeant 26 = .ok (.getfield 33, 3) := by decide +kernel
theorem dX12_isMeant_29 : decode cX12_isMeant 29 = .ok (.bipush 113, 2) := by decide +kernel
theorem dX12_isMeant_31 : decode cX12_isMeant 31 = .ok (.aload_n 0, 1) := by decide +kernel
theorem dX12_isMeant_32 : decode cX12_isMeant 32 = .ok (.iload_n 3, 1) := by decide +kernel
theorem dX12_isMeant_33 : decode cX12_isMeant 33 = .ok (.invokevirtual 361, 3) := by decide +kernel
theorem dX12_isMeant_36 : decode cX12_isMeant 36 = .ok (.iadd, 1) := by decide +kernel
theorem dX12_isMeant_37 : decode cX12_isMeant 37 = .ok (.iaload, 1) := by decide +kernel
theorem dX12_isMeant_38 : decode cX12_isMeant 38 = .ok (.iload_n 1, 1) := by decide +kernel
theorem dX12_isMeant_39 : decode cX12_isMeant 39 = .ok (.ishr, 1) := by decide +kernel
theorem dX12_isMeant_40 : decode cX12_isMeant 40 = .ok (.iconst 1, 1) := by decide +kernel
theorem dX12_isMeant_41 : decode cX12_isMeant 41 = .ok (.iand, 1) := by decide +kernel
theorem dX12_isMeant_42 : decode cX12_isMeant 42 = .ok (.aload_n 0, 1) := by decide +kernel
theorem dX12_isMeant_43 : decode cX12_isMeant 43 = .ok (.iload_n 3, 1) := by decide +kernel
theorem dX12_isMeant_44 : decode cX12_isMeant 44 = .ok (.iconst 1, 1) := by decide +kernel
theorem dX12_isMeant_45 : decode cX12_isMeant 45 = .ok (.iadd, 1) := by decide +kernel
theorem dX12_isMeant_46 : decode cX12_isMeant 46 = .ok (.invokevirtual 361, 3) := by decide +kernel
theorem dX12_isMeant_49 : decode cX12_isMeant 49 = .ok (.if_icmp .ne 7, 3) := by decide +kernel
theorem dX12_isMeant_52 : decode cX12_isMeant 52 = .ok (.iconst 1, 1) := by decide +kernel
theorem dX12_isMeant_53 : decode cX12_isMeant 53 = .ok (.goto 4, 3) := by decide +kernel
theorem dX12_isMeant_56 : decode cX12_isMeant 56 = .ok (.iconst 0, 1) := by decide +kernel
theorem dX12_isMeant_57 : decode cX12_isMeant 57 = .ok (.istore_n 2, 1) := by decide +kernel
theorem dX12_isMeant_58 : decode cX12_isMeant 58 = .ok (.iinc 3 2, 3) := by decide +kernel
theorem dX12_isMeant_61 : decode cX12_isMeant 61 = .ok (.goto (-57), 3) := by decide +kernel
theorem dX12_isMeant_64 : decode cX12_isMeant 64 = .ok (.iload_n 2, 1) := by decide +kernel
theorem dX12_isMeant_65 : decode cX12_isMeant 65 = .ok (.ireturn, 1) := by decide +kernel
theorem dX12_leftBy_0 : decode cX12_leftBy 0 = .ok (.iload_n 1, 1) := by decide +kernel
theorem dX12_leftBy_1 : decode cX12_leftBy 1 = .ok (.aload_n 0, 1) := by decide +kernel
theorem dX12_leftBy_2 : decode cX12_leftBy 2 = .ok (.getfield 33, 3) := by decide +kernel
theorem dX12_leftBy_5 : decode cX12_leftBy 5 = .ok (.bipush 113, 2) := by decide +kernel
theorem dX12_leftBy_7 : decode cX12_leftBy 7 = .ok (.iload_n 2, 1) := by decide +kernel
theorem dX12_leftBy_8 : decode cX12_leftBy 8 = .ok (.iadd, 1) := by decide +kernel
theorem dX12_leftBy_9 : decode cX12_leftBy 9 = .ok (.iaload, 1) := by decide +kernel
theorem dX12_leftBy_10 : decode cX12_leftBy 10 = .ok (.iand, 1) := by decide +kernel
theorem dX12_leftBy_11 : decode cX12_leftBy 11 = .ok (.invokestatic 348, 3) := by decide +kernel
theorem dX12_leftBy_14 : decode cX12_leftBy 14 = .ok (.istore_n 3, 1) := by decide +kernel
theorem dX12_leftBy_15 : decode cX12_leftBy 15 = .ok (.iload_n 1, 1) := by decide +kernel
theorem dX12_leftBy_16 : decode cX12_leftBy 16 = .ok (.iload_n 2, 1) := by decide +kernel
theorem dX12_leftBy_17 : decode cX12_leftBy 17 = .ok (.ishr, 1) := by decide +kernel
theorem dX12_leftBy_18 : decode cX12_leftBy 18 = .ok (.iconst 1, 1) := by decide +kernel
theorem dX12_leftBy_19 : decode cX12_leftBy 19 = .ok (.iand, 1) := by decide +kernel
theorem dX12_leftBy_20 : decode cX12_leftBy 20 = .ok (.istore 4, 2) := by decide +kernel
theorem dX12_leftBy_22 : decode cX12_leftBy 22 = .ok (.iload_n 3, 1) := by decide +kernel
theorem dX12_leftBy_23 : decode cX12_leftBy 23 = .ok (.iload_n 1, 1) := by decide +kernel
theorem dX12_leftBy_24 : decode cX12_leftBy 24 = .ok (.invokestatic 348, 3) := by decide +kernel
theorem dX12_leftBy_27 : decode cX12_leftBy 27 = .ok (.iload_n 3, 1) := by decide +kernel
theorem dX12_leftBy_28 : decode cX12_leftBy 28 = .ok (.isub, 1) := by decide +kernel
theorem dX12_leftBy_29 : decode cX12_leftBy 29 = .ok (.iload 4, 2) := by decide +kernel
theorem dX12_leftBy_31 : decode cX12_leftBy 31 = .ok (.isub, 1) := by decide +kernel
theorem dX12_leftBy_32 : decode cX12_leftBy 32 = .ok (.invokestatic 364, 3) := by decide +kernel
theorem dX12_leftBy_35 : decode cX12_leftBy 35 = .ok (.iload 4, 2) := by decide +kernel
theorem dX12_leftBy_37 : decode cX12_leftBy 37 = .ok (.invokestatic 364, 3) := by decide +kernel
theorem dX12_leftBy_40 : decode cX12_leftBy 40 = .ok (.ireturn, 1) := by decide +kernel
theorem dX12_who_0 : decode cX12_who 0 = .ok (.aload_n 0, 1) := by decide +kernel
theorem dX12_who_1 : decode cX12_who 1 = .ok (.iconst 0, 1) := by decide +kernel
theorem dX12_who_2 : decode cX12_who 2 = .ok (.putfield 1, 3) := by decide +kernel
theorem dX12_who_5 : decode cX12_who 5 = .ok (.aload_n 0, 1) := by decide +kernel
theorem dX12_who_6 : decode cX12_who 6 = .ok (.sipush 940, 3) := by decide +kernel
theorem dX12_who_9 : decode cX12_who 9 = .ok (.invokevirtual 259, 3) := by decide +kernel
theorem dX12_who_12 : decode cX12_who 12 = .ok (.aload_n 0, 1) := by decide +kernel
theorem dX12_who_13 : decode cX12_who 13 = .ok (.getfield 18, 3) := by decide +kernel
theorem dX12_who_16 : decode cX12_who 16 = .ok (.iconst 2, 1) := by decide +kernel
theorem dX12_who_17 : decode cX12_who 17 = .ok (.bipush 12, 2) := by decide +kernel
theorem dX12_who_19 : decode cX12_who 19 = .ok (.invokestatic 193, 3) := by decide +kernel
theorem dX12_who_22 : decode cX12_who 22 = .ok (.ifCond .eq 13, 3) := by decide +kernel
theorem dX12_who_25 : decode cX12_who 25 = .ok (.aload_n 0, 1) := by decide +kernel
theorem dX12_who_26 : decode cX12_who 26 = .ok (.getfield 18, 3) := by decide +kernel
theorem dX12_who_29 : decode cX12_who 29 = .ok (.iconst 2, 1) := by decide +kernel
theorem dX12_who_30 : decode cX12_who 30 = .ok (.irem, 1) := by decide +kernel
theorem dX12_who_31 : decode cX12_who 31 = .ok (.iconst 1, 1) := by decide +kernel
theorem dX12_who_32 : decode cX12_who 32 = .ok (.if_icmp .ne 5, 3) := by decide +kernel
theorem dX12_who_35 : decode cX12_who 35 = .ok (.iconst (-1), 1) := by decide +kernel
theorem dX12_who_36 : decode cX12_who 36 = .ok (.ireturn, 1) := by decide +kernel
theorem dX12_who_37 : decode cX12_who 37 = .ok (.iconst 0, 1) := by decide +kernel
theorem dX12_who_38 : decode cX12_who 38 = .ok (.istore_n 1, 1) := by decide +kernel
theorem dX12_who_39 : decode cX12_who 39 = .ok (.iload_n 1, 1) := by decide +kernel
theorem dX12_who_40 : decode cX12_who 40 = .ok (.aload_n 0, 1) := by decide +kernel
theorem dX12_who_41 : decode cX12_who 41 = .ok (.getfield 18, 3) := by decide +kernel
theorem dX12_who_44 : decode cX12_who 44 = .ok (.if_icmp .ge 34, 3) := by decide +kernel
theorem dX12_who_47 : decode cX12_who 47 = .ok (.aload_n 0, 1) := by decide +kernel
theorem dX12_who_48 : decode cX12_who 48 = .ok (.aload_n 0, 1) := by decide +kernel
theorem dX12_who_49 : decode cX12_who 49 = .ok (.iload_n 1, 1) := by decide +kernel
theorem dX12_who_50 : decode cX12_who 50 = .ok (.invokevirtual 361, 3) := by decide +kernel
theorem dX12_who_53 : decode cX12_who 53 = .ok (.invokevirtual 290, 3) := by decide +kernel
theorem dX12_who_56 : decode cX12_who 56 = .ok (.ifCond .eq 14, 3) := by decide +kernel
theorem dX12_who_59 : decode cX12_who 59 = .ok (.aload_n 0, 1) := by decide +kernel
theorem dX12_who_60 : decode cX12_who 60 = .ok (.iload_n 1, 1) := by decide +kernel
theorem dX12_who_61 : decode cX12_who 61 = .ok (.iconst 1, 1) := by decide +kernel
theorem dX12_who_62 : decode cX12_who 62 = .ok (.iadd, 1) := by decide +kernel
theorem dX12_who_63 : decode cX12_who 63 = .ok (.invokevirtual 361, 3) := by decide +kernel
theorem dX12_who_66 : decode cX12_who 66 = .ok (.iconst 1, 1) := by decide +kernel
theorem dX12_who_67 : decode cX12_who 67 = .ok (.if_icmp .le 5, 3) := by decide +kernel
theorem dX12_who_70 : decode cX12_who 70 = .ok (.iconst (-1), 1) := by decide +kernel
theorem dX12_who_71 : decode cX12_who 71 = .ok (.ireturn, 1) := by decide +kernel
theorem dX12_who_72 : decode cX12_who 72 = .ok (.iinc 1 2, 3) := by decide +kernel
theorem dX12_who_75 : decode cX12_who 75 = .ok (.goto (-36), 3) := by decide +kernel
theorem dX12_who_78 : decode cX12_who 78 = .ok (.iconst 0, 1) := by decide +kernel
theorem dX12_who_79 : decode cX12_who 79 = .ok (.istore_n 1, 1) := by decide +kernel
theorem dX12_who_80 : decode cX12_who 80 = .ok (.iconst 0, 1) := by decide +kernel
theorem dX12_who_81 : decode cX12_who 81 = .ok (.istore_n 2, 1) := by decide +kernel
theorem dX12_who_82 : decode cX12_who 82 = .ok (.iload_n 2, 1) := by decide +kernel
theorem dX12_who_83 : decode cX12_who 83 = .ok (.aload_n 0, 1) := by decide +kernel
theorem dX12_who_84 : decode cX12_who 84 = .ok (.getfield 33, 3) := by decide +kernel
theorem dX12_who_87 : decode cX12_who 87 = .ok (.iconst 1, 1) := by decide +kernel
theorem dX12_who_88 : decode cX12_who 88 = .ok (.iaload, 1) := by decide +kernel
theorem dX12_who_89 : decode cX12_who 89 = .ok (.if_icmp .ge 27, 3) := by decide +kernel
theorem dX12_who_92 : decode cX12_who 92 = .ok (.iload_n 1, 1) := by decide +kernel
theorem dX12_who_93 : decode cX12_who 93 = .ok (.aload_n 0, 1) := by decide +kernel
theorem dX12_who_94 : decode cX12_who 94 = .ok (.iload_n 2, 1) := by decide +kernel
theorem dX12_who_95 : decode cX12_who 95 = .ok (.invokevirtual 367, 3) := by decide +kernel
theorem dX12_who_98 : decode cX12_who 98 = .ok (.ifCond .eq 9, 3) := by decide +kernel
theorem dX12_who_101 : decode cX12_who 101 = .ok (.iconst 1, 1) := by decide +kernel
theorem dX12_who_102 : decode cX12_who 102 = .ok (.iload_n 2, 1) := by decide +kernel
theorem dX12_who_103 : decode cX12_who 103 = .ok (.ishl, 1) := by decide +kernel
theorem dX12_who_104 : decode cX12_who 104 = .ok (.goto 4, 3) := by decide +kernel
theorem dX12_who_107 : decode cX12_who 107 = .ok (.iconst 0, 1) := by decide +kernel
theorem dX12_who_108 : decode cX12_who 108 = .ok (.ior, 1) := by decide +kernel
theorem dX12_who_109 : decode cX12_who 109 = .ok (.istore_n 1, 1) := by decide +kernel
theorem dX12_who_110 : decode cX12_who 110 = .ok (.iinc 2 1, 3) := by decide +kernel
theorem dX12_who_113 : decode cX12_who 113 = .ok (.goto (-31), 3) := by decide +kernel
theorem dX12_who_116 : decode cX12_who 116 = .ok (.iload_n 1, 1) := by decide +kernel
theorem dX12_who_117 : decode cX12_who 117 = .ok (.ifCond .ne 5, 3) := by decide +kernel
theorem dX12_who_120 : decode cX12_who 120 = .ok (.iconst 0, 1) := by decide +kernel
theorem dX12_who_121 : decode cX12_who 121 = .ok (.ireturn, 1) := by decide +kernel
theorem dX12_who_122 : decode cX12_who 122 = .ok (.aload_n 0, 1) := by decide +kernel
theorem dX12_who_123 : decode cX12_who 123 = .ok (.iconst 1, 1) := by decide +kernel
theorem dX12_who_124 : decode cX12_who 124 = .ok (.putfield 370, 3) := by decide +kernel
theorem dX12_who_127 : decode cX12_who 127 = .ok (.aload_n 0, 1) := by decide +kernel
theorem dX12_who_128 : decode cX12_who 128 = .ok (.iconst 0, 1) := by decide +kernel
theorem dX12_who_129 : decode cX12_who 129 = .ok (.putfield 373, 3) := by decide +kernel
theorem dX12_who_132 : decode cX12_who 132 = .ok (.iconst 1, 1) := by decide +kernel
theorem dX12_who_133 : decode cX12_who 133 = .ok (.istore_n 2, 1) := by decide +kernel
theorem dX12_who_134 : decode cX12_who 134 = .ok (.iload_n 2, 1) := by decide +kernel
theorem dX12_who_135 : decode cX12_who 135 = .ok (.aload_n 0, 1) := by decide +kernel
theorem dX12_who_136 : decode cX12_who 136 = .ok (.getfield 33, 3) := by decide +kernel
theorem dX12_who_139 : decode cX12_who 139 = .ok (.iconst 1, 1) := by decide +kernel
theorem dX12_who_140 : decode cX12_who 140 = .ok (.iaload, 1) := by decide +kernel
theorem dX12_who_141 : decode cX12_who 141 = .ok (.if_icmp .ge 32, 3) := by decide +kernel
theorem dX12_who_144 : decode cX12_who 144 = .ok (.aload_n 0, 1) := by decide +kernel
theorem dX12_who_145 : decode cX12_who 145 = .ok (.iload_n 1, 1) := by decide +kernel
theorem dX12_who_146 : decode cX12_who 146 = .ok (.iload_n 2, 1) := by decide +kernel
theorem dX12_who_147 : decode cX12_who 147 = .ok (.invokevirtual 376, 3) := by decide +kernel
theorem dX12_who_150 : decode cX12_who 150 = .ok (.aload_n 0, 1) := by decide +kernel
theorem dX12_who_151 : decode cX12_who 151 = .ok (.iload_n 1, 1) := by decide +kernel
theorem dX12_who_152 : decode cX12_who 152 = .ok (.aload_n 0, 1) := by decide +kernel
theorem dX12_who_153 : decode cX12_who 153 = .ok (.getfield 373, 3) := by decide +kernel
theorem dX12_who_156 : decode cX12_who 156 = .ok (.invokevirtual 376, 3) := by decide +kernel
theorem dX12_who_159 : decode cX12_who 159 = .ok (.if_icmp .ge 8, 3) := by decide +kernel
theorem dX12_who_162 : decode cX12_who 162 = .ok (.aload_n 0, 1) := by decide +kernel
theorem dX12_who_163 : decode cX12_who 163 = .ok (.iload_n 2, 1) := by decide +kernel
theorem dX12_who_164 : decode cX12_who 164 = .ok (.putfield 373, 3) := by decide +kernel
theorem dX12_who_167 : decode cX12_who 167 = .ok (.iinc 2 1, 3) := by decide +kernel
theorem dX12_who_170 : decode cX12_who 170 = .ok (.goto (-36), 3) := by decide +kernel
theorem dX12_who_173 : decode cX12_who 173 = .ok (.iload_n 1, 1) := by decide +kernel
theorem dX12_who_174 : decode cX12_who 174 = .ok (.ireturn, 1) := by decide +kernel
theorem dX12_ask_0 : decode cX12_ask 0 = .ok (.aload_n 0, 1) := by decide +kernel
theorem dX12_ask_1 : decode cX12_ask 1 = .ok (.iconst 0, 1) := by decide +kernel
theorem dX12_ask_2 : decode cX12_ask 2 = .ok (.putfield 1, 3) := by decide +kernel
theorem dX12_ask_5 : decode cX12_ask 5 = .ok (.aload_n 0, 1) := by decide +kernel
theorem dX12_ask_6 : decode cX12_ask 6 = .ok (.getfield 370, 3) := by decide +kernel
theorem dX12_ask_9 : decode cX12_ask 9 = .ok (.ifCond .eq 10, 3) := by decide +kernel
theorem dX12_ask_12 : decode cX12_ask 12 = .ok (.aload_n 0, 1) := by decide +kernel
theorem dX12_ask_13 : decode cX12_ask 13 = .ok (.getfield 373, 3) := by decide +kernel
theorem dX12_ask_16 : decode cX12_ask 16 = .ok (.goto 4, 3) := by decide +kernel
theorem dX12_ask_19 : decode cX12_ask 19 = .ok (.iconst (-1), 1) := by decide +kernel
theorem dX12_ask_20 : decode cX12_ask 20 = .ok (.ireturn, 1) := by decide +kernel
theorem dX12_opens_0 : decode cX12_opens 0 = .ok (.aload_n 0, 1) := by decide +kernel
theorem dX12_opens_1 : decode cX12_opens 1 = .ok (.iconst 0, 1) := by decide +kernel
theorem dX12_opens_2 : decode cX12_opens 2 = .ok (.putfield 1, 3) := by decide +kernel
theorem dX12_opens_5 : decode cX12_opens 5 = .ok (.aload_n 0, 1) := by decide +kernel
theorem dX12_opens_6 : decode cX12_opens 6 = .ok (.iload_n 1, 1) := by decide +kernel
theorem dX12_opens_7 : decode cX12_opens 7 = .ok (.invokevirtual 290, 3) := by decide +kernel
theorem dX12_opens_10 : decode cX12_opens 10 = .ok (.ifCond .eq 16, 3) := by decide +kernel
theorem dX12_opens_13 : decode cX12_opens 13 = .ok (.aload_n 0, 1) := by decide +kernel
theorem dX12_opens_14 : decode cX12_opens 14 = .ok (.getfield 33, 3) := by decide +kernel
theorem dX12_opens_17 : decode cX12_opens 17 = .ok (.bipush 73, 2) := by decide +kernel
theorem dX12_opens_19 : decode cX12_opens 19 = .ok (.iload_n 1, 1) := by decide +kernel
theorem dX12_opens_20 : decode cX12_opens 20 = .ok (.iadd, 1) := by decide +kernel
theorem dX12_opens_21 : decode cX12_opens 21 = .ok (.iaload, 1) := by decide +kernel
theorem dX12_opens_22 : decode cX12_opens 22 = .ok (.iconst 1, 1) := by decide +kernel
theorem dX12_opens_23 : decode cX12_opens 23 = .ok (.if_icmp .eq 5, 3) := by decide +kernel
theorem dX12_opens_26 : decode cX12_opens 26 = .ok (.iconst (-1), 1) := by decide +kernel
theorem dX12_opens_27 : decode cX12_opens 27 = .ok (.ireturn, 1) := by decide +kernel
theorem dX12_opens_28 : decode cX12_opens 28 = .ok (.aload_n 0, 1) := by decide +kernel
theorem dX12_opens_29 : decode cX12_opens 29 = .ok (.invokevirtual 379, 3) := by decide +kernel
theorem dX12_opens_32 : decode cX12_opens 32 = .ok (.iconst (-1), 1) := by decide +kernel
theorem dX12_opens_33 : decode cX12_opens 33 = .ok (.istore_n 2, 1) := by decide +kernel
theorem dX12_opens_34 : decode cX12_opens 34 = .ok (.iconst 1, 1) := by decide +kernel
theorem dX12_opens_35 : decode cX12_opens 35 = .ok (.istore_n 3, 1) := by decide +kernel
theorem dX12_opens_36 : decode cX12_opens 36 = .ok (.iload_n 3, 1) := by decide +kernel
theorem dX12_opens_37 : decode cX12_opens 37 = .ok (.sipush 300, 3) := by decide +kernel
theorem dX12_opens_40 : decode cX12_opens 40 = .ok (.if_icmp .gt 41, 3) := by decide +kernel
theorem dX12_opens_43 : decode cX12_opens 43 = .ok (.aload_n 0, 1) := by decide +kernel
theorem dX12_opens_44 : decode cX12_opens 44 = .ok (.getfield 33, 3) := by decide +kernel
theorem dX12_opens_47 : decode cX12_opens 47 = .ok (.bipush 73, 2) := by decide +kernel
theorem dX12_opens_49 : decode cX12_opens 49 = .ok (.iload_n 1, 1) := by decide +kernel
theorem dX12_opens_50 : decode cX12_opens 50 = .ok (.iadd, 1) := by decide +kernel
theorem dX12_opens_51 : decode cX12_opens 51 = .ok (.iaload, 1) := by decide +kernel
theorem dX12_opens_52 : decode cX12_opens 52 = .ok (.iconst 1, 1) := by decide +kernel
theorem dX12_opens_53 : decode cX12_opens 53 = .ok (.if_icmp .ne 28, 3) := by decide +kernel
theorem dX12_opens_56 : decode cX12_opens 56 = .ok (.aload_n 0, 1) := by decide +kernel
theorem dX12_opens_57 : decode cX12_opens 57 = .ok (.invokevirtual 327, 3) := by decide +kernel
theorem dX12_opens_60 : decode cX12_opens 60 = .ok (.aload_n 0, 1) := by decide +kernel
theorem dX12_opens_61 : decode cX12_opens 61 = .ok (.getfield 33, 3) := by decide +kernel
theorem dX12_opens_64 : decode cX12_opens 64 = .ok (.bipush 73, 2) := by decide +kernel
theorem dX12_opens_66 : decode cX12_opens 66 = .ok (.iload_n 1, 1) := by decide +kernel
theorem dX12_opens_67 : decode cX12_opens 67 = .ok (.iadd, 1) := by decide +kernel
theorem dX12_opens_68 : decode cX12_opens 68 = .ok (.iaload, 1) := by decide +kernel
theorem dX12_opens_69 : decode cX12_opens 69 = .ok (.iconst 2, 1) := by decide +kernel
theorem dX12_opens_70 : decode cX12_opens 70 = .ok (.if_icmp .ne 5, 3) := by decide +kernel
theorem dX12_opens_73 : decode cX12_opens 73 = .ok (.iload_n 3, 1) := by decide +kernel
theorem dX12_opens_74 : decode cX12_opens 74 = .ok (.istore_n 2, 1) := by decide +kernel
theorem dX12_opens_75 : decode cX12_opens 75 = .ok (.iinc 3 1, 3) := by decide +kernel
theorem dX12_opens_78 : decode cX12_opens 78 = .ok (.goto (-42), 3) := by decide +kernel
theorem dX12_opens_81 : decode cX12_opens 81 = .ok (.aload_n 0, 1) := by decide +kernel
theorem dX12_opens_82 : decode cX12_opens 82 = .ok (.invokevirtual 382, 3) := by decide +kernel
theorem dX12_opens_85 : decode cX12_opens 85 = .ok (.iload_n 2, 1) := by decide +kernel
theorem dX12_opens_86 : decode cX12_opens 86 = .ok (.ireturn, 1) := by decide +kernel
theorem dX12_known_0 : decode cX12_known 0 = .ok (.aload_n 0, 1) := by decide +kernel
theorem dX12_known_1 : decode cX12_known 1 = .ok (.iconst 0, 1) := by decide +kernel
theorem dX12_known_2 : decode cX12_known 2 = .ok (.putfield 1, 3) := by decide +kernel
theorem dX12_known_5 : decode cX12_known 5 = .ok (.aload_n 0, 1) := by decide +kernel
theorem dX12_known_6 : decode cX12_known 6 = .ok (.invokevirtual 379, 3) := by decide +kernel
theorem dX12_known_9 : decode cX12_known 9 = .ok (.iconst (-1), 1) := by decide +kernel
theorem dX12_known_10 : decode cX12_known 10 = .ok (.istore_n 1, 1) := by decide +kernel
theorem dX12_known_11 : decode cX12_known 11 = .ok (.iconst 0, 1) := by decide +kernel
theorem dX12_known_12 : decode cX12_known 12 = .ok (.istore_n 2, 1) := by decide +kernel
theorem dX12_known_13 : decode cX12_known 13 = .ok (.iload_n 2, 1) := by decide +kernel
theorem dX12_known_14 : decode cX12_known 14 = .ok (.sipush 300, 3) := by decide +kernel
theorem dX12_known_17 : decode cX12_known 17 = .ok (.if_icmp .gt 26, 3) := by decide +kernel
theorem dX12_known_20 : decode cX12_known 20 = .ok (.iload_n 1, 1) := by decide +kernel
theorem dX12_known_21 : decode cX12_known 21 = .ok (.ifCond .ge 22, 3) := by decide +kernel
theorem dX12_known_24 : decode cX12_known 24 = .ok (.aload_n 0, 1) := by decide +kernel
theorem dX12_known_25 : decode cX12_known 25 = .ok (.invokevirtual 300, 3) := by decide +kernel
theorem dX12_known_28 : decode cX12_known 28 = .ok (.ifCond .ne 5, 3) := by decide +kernel
theorem dX12_known_31 : decode cX12_known 31 = .ok (.iload_n 2, 1) := by decide +kernel
theorem dX12_known_32 : decode cX12_known 32 = .ok (.istore_n 1, 1) := by decide +kernel
theorem dX12_known_33 : decode cX12_known 33 = .ok (.aload_n 0, 1) := by decide +kernel
theorem dX12_known_34 : decode cX12_known 34 = .ok (.invokevirtual 327, 3) := by decide +kernel
theorem dX12_known_37 : decode cX12_known 37 = .ok (.iinc 2 1, 3) := by decide +kernel
theorem dX12_known_40 : decode cX12_known 40 = .ok (.goto (-27), 3) := by decide +kernel
theorem dX12_known_43 : decode cX12_known 43 = .ok (.aload_n 0, 1) := by decide +kernel
theorem dX12_known_44 : decode cX12_known 44 = .ok (.invokevirtual 382, 3) := by decide +kernel
theorem dX12_known_47 : decode cX12_known 47 = .ok (.iload_n 1, 1) := by decide +kernel
theorem dX12_known_48 : decode cX12_known 48 = .ok (.ireturn, 1) := by decide +kernel
theorem dX12_meet_0 : decode cX12_meet 0 = .ok (.aload_n 0, 1) := by decide +kernel
theorem dX12_meet_1 : decode cX12_meet 1 = .ok (.iconst 0, 1) := by decide +kernel
theorem dX12_meet_2 : decode cX12_meet 2 = .ok (.putfield 1, 3) := by decide +kernel
theorem dX12_meet_5 : decode cX12_meet 5 = .ok (.aload_n 0, 1) := by decide +kernel
theorem dX12_meet_6 : decode cX12_meet 6 = .ok (.iload_n 1, 1) := by decide +kernel
theorem dX12_meet_7 : decode cX12_meet 7 = .ok (.invokevirtual 290, 3) := by decide +kernel
theorem dX12_meet_10 : decode cX12_meet 10 = .ok (.ifCond .eq 16, 3) := by decide +kernel
theorem dX12_meet_13 : decode cX12_meet 13 = .ok (.aload_n 0, 1) := by decide +kernel
theorem dX12_meet_14 : decode cX12_meet 14 = .ok (.iload_n 2, 1) := by decide +kernel
theorem dX12_meet_15 : decode cX12_meet 15 = .ok (.invokevirtual 290, 3) := by decide +kernel
theorem dX12_meet_18 : decode cX12_meet 18 = .ok (.ifCond .eq 8, 3) := by decide +kernel
theorem dX12_meet_21 : decode cX12_meet 21 = .ok (.iload_n 1, 1) := by decide +kernel
theorem dX12_meet_22 : decode cX12_meet 22 = .ok (.iload_n 2, 1) := by decide +kernel
theorem dX12_meet_23 : decode cX12_meet 23 = .ok (.if_icmp .ne 5, 3) := by decide +kernel
theorem dX12_meet_26 : decode cX12_meet 26 = .ok (.iconst (-1), 1) := by decide +kernel
theorem dX12_meet_27 : decode cX12_meet 27 = .ok (.ireturn, 1) := by decide +kernel
theorem dX12_meet_28 : decode cX12_meet 28 = .ok (.aload_n 0, 1) := by decide +kernel
theorem dX12_meet_29 : decode cX12_meet 29 = .ok (.invokevirtual 379, 3) := by decide +kernel
theorem dX12_meet_32 : decode cX12_meet 32 = .ok (.iconst (-1), 1) := by decide +kernel
theorem dX12_meet_33 : decode cX12_meet 33 = .ok (.istore_n 3, 1) := by decide +kernel
theorem dX12_meet_34 : decode cX12_meet 34 = .ok (.iconst 0, 1) := by decide +kernel
theorem dX12_meet_35 : decode cX12_meet 35 = .ok (.istore 4, 2) := by decide +kernel
theorem dX12_meet_37 : decode cX12_meet 37 = .ok (.iload 4, 2) := by decide +kernel
theorem dX12_meet_39 : decode cX12_meet 39 = .ok (.sipush 300, 3) := by decide +kernel
theorem dX12_meet_42 : decode cX12_meet 42 = .ok (.if_icmp .gt 65, 3) := by decide +kernel
theorem dX12_meet_45 : decode cX12_meet 45 = .ok (.iload_n 3, 1) := by decide +kernel
theorem dX12_meet_46 : decode cX12_meet 46 = .ok (.ifCond .ge 61, 3) := by decide +kernel
theorem dX12_meet_49 : decode cX12_meet 49 = .ok (.aload_n 0, 1) := by decide +kernel
theorem dX12_meet_50 : decode cX12_meet 50 = .ok (.getfield 33, 3) := by decide +kernel
theorem dX12_meet_53 : decode cX12_meet 53 = .ok (.bipush 73, 2) := by decide +kernel
theorem dX12_meet_55 : decode cX12_meet 55 = .ok (.iload_n 1, 1) := by decide +kernel
theorem dX12_meet_56 : decode cX12_meet 56 = .ok (.iadd, 1) := by decide +kernel
theorem dX12_meet_57 : decode cX12_meet 57 = .ok (.iaload, 1) := by decide +kernel
theorem dX12_meet_58 : decode cX12_meet 58 = .ok (.ifCond .ne 39, 3) := by decide +kernel
theorem dX12_meet_61 : decode cX12_meet 61 = .ok (.aload_n 0, 1) := by decide +kernel
theorem dX12_meet_62 : decode cX12_meet 62 = .ok (.getfield 33, 3) := by decide +kernel
theorem dX12_meet_65 : decode cX12_meet 65 = .ok (.bipush 73, 2) := by decide +kernel
theorem dX12_meet_67 : decode cX12_meet 67 = .ok (.iload_n 2, 1) := by decide +kernel
theorem dX12_meet_68 : decode cX12_meet 68 = .ok (.iadd, 1) := by decide +kernel
theorem dX12_meet_69 : decode cX12_meet 69 = .ok (.iaload, 1) := by decide +kernel
theorem dX12_meet_70 : decode cX12_meet 70 = .ok (.ifCond .ne 27, 3) := by decide +kernel
theorem dX12_meet_73 : decode cX12_meet 73 = .ok (.aload_n 0, 1) := by decide +kernel
theorem dX12_meet_74 : decode cX12_meet 74 = .ok (.getfield 33, 3) := by decide +kernel
theorem dX12_meet_77 : decode cX12_meet 77 = .ok (.bipush 81, 2) := by decide +kernel
theorem dX12_meet_79 : decode cX12_meet 79 = .ok (.iload_n 1, 1) := by decide +kernel
theorem dX12_meet_80 : decode cX12_meet 80 = .ok (.iadd, 1) := by decide +kernel
theorem dX12_meet_81 : decode cX12_meet 81 = .ok (.iaload, 1) := by decide +kernel
theorem dX12_meet_82 : decode cX12_meet 82 = .ok (.aload_n 0, 1) := by decide +kernel
theorem dX12_meet_83 : decode cX12_meet 83 = .ok (.getfield 33, 3) := by decide +kernel
theorem dX12_meet_86 : decode cX12_meet 86 = .ok (.bipush 81, 2) := by decide +kernel
theorem dX12_meet_88 : decode cX12_meet 88 = .ok (.iload_n 2, 1) := by decide +kernel
theorem dX12_meet_89 : decode cX12_meet 89 = .ok (.iadd, 1) := by decide +kernel
theorem dX12_meet_90 : decode cX12_meet 90 = .ok (.iaload, 1) := by decide +kernel
theorem dX12_meet_91 : decode cX12_meet 91 = .ok (.if_icmp .ne 6, 3) := by decide +kernel
theorem dX12_meet_94 : decode cX12_meet 94 = .ok (.iload 4, 2) := by decide +kernel
theorem dX12_meet_96 : decode cX12_meet 96 = .ok (.istore_n 3, 1) := by decide +kernel
theorem dX12_meet_97 : decode cX12_meet 97 = .ok (.aload_n 0, 1) := by decide +kernel
theorem dX12_meet_98 : decode cX12_meet 98 = .ok (.invokevirtual 327, 3) := by decide +kernel
theorem dX12_meet_101 : decode cX12_meet 101 = .ok (.iinc 4 1, 3) := by decide +kernel
theorem dX12_meet_104 : decode cX12_meet 104 = .ok (.goto (-67), 3) := by decide +kernel
theorem dX12_meet_107 : decode cX12_meet 107 = .ok (.aload_n 0, 1) := by decide +kernel
theorem dX12_meet_108 : decode cX12_meet 108 = .ok (.invokevirtual 382, 3) := by decide +kernel
theorem dX12_meet_111 : decode cX12_meet 111 = .ok (.iload_n 3, 1) := by decide +kernel
theorem dX12_meet_112 : decode cX12_meet 112 = .ok (.ireturn, 1) := by decide +kernel
theorem dX12_busiest_0 : decode cX12_busiest 0 = .ok (.aload_n 0, 1) := by decide +kernel
theorem dX12_busiest_1 : decode cX12_busiest 1 = .ok (.iconst 0, 1) := by decide +kernel
theorem dX12_busiest_2 : decode cX12_busiest 2 = .ok (.putfield 1, 3) := by decide +kernel
theorem dX12_busiest_5 : decode cX12_busiest 5 = .ok (.iconst (-1), 1) := by decide +kernel
theorem dX12_busiest_6 : decode cX12_busiest 6 = .ok (.istore_n 1, 1) := by decide +kernel
theorem dX12_busiest_7 : decode cX12_busiest 7 = .ok (.iconst 0, 1) := by decide +kernel
theorem dX12_busiest_8 : decode cX12_busiest 8 = .ok (.istore_n 2, 1) := by decide +kernel
theorem dX12_busiest_9 : decode cX12_busiest 9 = .ok (.iload_n 2, 1) := by decide +kernel
theorem dX12_busiest_10 : decode cX12_busiest 10 = .ok (.aload_n 0, 1) := by decide +kernel
theorem dX12_busiest_11 : decode cX12_busiest 11 = .ok (.getfield 33, 3) := by decide +kernel
theorem dX12_busiest_14 : decode cX12_busiest 14 = .ok (.iconst 1, 1) := by decide +kernel
theorem dX12_busiest_15 : decode cX12_busiest 15 = .ok (.iaload, 1) := by decide +kernel
theorem dX12_busiest_16 : decode cX12_busiest 16 = .ok (.if_icmp .ge 51, 3) := by decide +kernel
theorem dX12_busiest_19 : decode cX12_busiest 19 = .ok (.aload_n 0, 1) := by decide +kernel
theorem dX12_busiest_20 : decode cX12_busiest 20 = .ok (.getfield 33, 3) := by decide +kernel
theorem dX12_busiest_23 : decode cX12_busiest 23 = .ok (.sipush 129, 3) := by decide +kernel
theorem dX12_busiest_26 : decode cX12_busiest 26 = .ok (.iload_n 2, 1) := by decide +kernel
theorem dX12_busiest_27 : decode cX12_busiest 27 = .ok (.iadd, 1) := by decide +kernel
theorem dX12_busiest_28 : decode cX12_busiest 28 = .ok (.iaload, 1) := by decide +kernel
theorem dX12_busiest_29 : decode cX12_busiest 29 = .ok (.ifCond .le 32, 3) := by decide +kernel
theorem dX12_busiest_32 : decode cX12_busiest 32 = .ok (.iload_n 1, 1) := by decide +kernel
theorem dX12_busiest_33 : decode cX12_busiest 33 = .ok (.ifCond .lt 26, 3) := by decide +kernel
theorem dX12_busiest_36 : decode cX12_busiest 36 = .ok (.aload_n 0, 1) := by decide +kernel
theorem dX12_busiest_37 : decode cX12_busiest 37 = .ok (.getfield 33, 3) := by decide +kernel
theorem dX12_busiest_40 : decode cX12_busiest 40 = .ok (.sipush 129, 3) := by decide +kernel
theorem dX12_busiest_43 : decode cX12_busiest 43 = .ok (.iload_n 2, 1) := by decide +kernel
theorem dX12_busiest_44 : decode cX12_busiest 44 = .ok (.iadd, 1) := by decide +kernel
theorem dX12_busiest_45 : decode cX12_busiest 45 = .ok (.iaload, 1) := by decide +kernel
theorem dX12_busiest_46 : decode cX12_busiest 46 = .ok (.aload_n 0, 1) := by decide +kernel
theorem dX12_busiest_47 : decode cX12_busiest 47 = .ok (.getfield 33, 3) := by decide +kernel
theorem dX12_busiest_50 : decode cX12_busiest 50 = .ok (.sipush 129, 3) := by decide +kernel
theorem dX12_busiest_53 : decode cX12_busiest 53 = .ok (.iload_n 1, 1) := by decide +kernel
theorem dX12_busiest_54 : decode cX12_busiest 54 = .ok (.iadd, 1) := by decide +kernel
theorem dX12_busiest_55 : decode cX12_busiest 55 = .ok (.iaload, 1) := by decide +kernel
theorem dX12_busiest_56 : decode cX12_busiest 56 = .ok (.if_icmp .le 5, 3) := by decide +kernel
theorem dX12_busiest_59 : decode cX12_busiest 59 = .ok (.iload_n 2, 1) := by decide +kernel
theorem dX12_busiest_60 : decode cX12_busiest 60 = .ok (.istore_n 1, 1) := by decide +kernel
theorem dX12_busiest_61 : decode cX12_busiest 61 = .ok (.iinc 2 1, 3) := by decide +kernel
theorem dX12_busiest_64 : decode cX12_busiest 64 = .ok (.goto (-55), 3) := by decide +kernel
theorem dX12_busiest_67 : decode cX12_busiest 67 = .ok (.iload_n 1, 1) := by decide +kernel
theorem dX12_busiest_68 : decode cX12_busiest 68 = .ok (.ireturn, 1) := by decide +kernel
theorem dX12_mean_0 : decode cX12_mean 0 = .ok (.aload_n 0, 1) := by decide +kernel
theorem dX12_mean_1 : decode cX12_mean 1 = .ok (.aload_n 0, 1) := by decide +kernel
theorem dX12_mean_2 : decode cX12_mean 2 = .ok (.getfield 33, 3) := by decide +kernel
theorem dX12_mean_5 : decode cX12_mean 5 = .ok (.iconst 1, 1) := by decide +kernel
theorem dX12_mean_6 : decode cX12_mean 6 = .ok (.iaload, 1) := by decide +kernel
theorem dX12_mean_7 : decode cX12_mean 7 = .ok (.ifCond .eq 12, 3) := by decide +kernel
theorem dX12_mean_10 : decode cX12_mean 10 = .ok (.iload_n 1, 1) := by decide +kernel
theorem dX12_mean_11 : decode cX12_mean 11 = .ok (.iconst 0, 1) := by decide +kernel
theorem dX12_mean_12 : decode cX12_mean 12 = .ok (.iconst 1, 1) := by decide +kernel
theorem dX12_mean_13 : decode cX12_mean 13 = .ok (.invokestatic 193, 3) := by decide +kernel
theorem dX12_mean_16 : decode cX12_mean 16 = .ok (.ifCond .ne 7, 3) := by decide +kernel
theorem dX12_mean_19 : decode cX12_mean 19 = .ok (.iconst 1, 1) := by decide +kernel
theorem dX12_mean_20 : decode cX12_mean 20 = .ok (.goto 4, 3) := by decide +kernel
theorem dX12_mean_23 : decode cX12_mean 23 = .ok (.iconst 0, 1) := by decide +kernel
theorem dX12_mean_24 : decode cX12_mean 24 = .ok (.invokevirtual 293, 3) := by decide +kernel
theorem dX12_mean_27 : decode cX12_mean 27 = .ok (.ifCond .eq 5, 3) := by decide +kernel
theorem dX12_mean_30 : decode cX12_mean 30 = .ok (.iconst 0, 1) := by decide +kernel
theorem dX12_mean_31 : decode cX12_mean 31 = .ok (.ireturn, 1) := by decide +kernel
theorem dX12_mean_32 : decode cX12_mean 32 = .ok (.iconst 0, 1) := by decide +kernel
theorem dX12_mean_33 : decode cX12_mean 33 = .ok (.istore_n 2, 1) := by decide +kernel
theorem dX12_mean_34 : decode cX12_mean 34 = .ok (.iconst 0, 1) := by decide +kernel
theorem dX12_mean_35 : decode cX12_mean 35 = .ok (.istore_n 3, 1) := by decide +kernel
theorem dX12_mean_36 : decode cX12_mean 36 = .ok (.iload_n 3, 1) := by decide +kernel
theorem dX12_mean_37 : decode cX12_mean 37 = .ok (.aload_n 0, 1) := by decide +kernel
theorem dX12_mean_38 : decode cX12_mean 38 = .ok (.getfield 33, 3) := by decide +kernel
theorem dX12_mean_41 : decode cX12_mean 41 = .ok (.iconst 1, 1) := by decide +kernel
theorem dX12_mean_42 : decode cX12_mean 42 = .ok (.iaload, 1) := by decide +kernel
theorem dX12_mean_43 : decode cX12_mean 43 = .ok (.if_icmp .ge 24, 3) := by decide +kernel
theorem dX12_mean_46 : decode cX12_mean 46 = .ok (.iload_n 2, 1) := by decide +kernel
theorem dX12_mean_47 : decode cX12_mean 47 = .ok (.aload_n 0, 1) := by decide +kernel
theorem dX12_mean_48 : decode cX12_mean 48 = .ok (.getfield 33, 3) := by decide +kernel
theorem dX12_mean_51 : decode cX12_mean 51 = .ok (.bipush 113, 2) := by decide +kernel
theorem dX12_mean_53 : decode cX12_mean 53 = .ok (.iload_n 3, 1) := by decide +kernel
theorem dX12_mean_54 : decode cX12_mean 54 = .ok (.iadd, 1) := by decide +kernel
theorem dX12_mean_55 : decode cX12_mean 55 = .ok (.iaload, 1) := by decide +kernel
theorem dX12_mean_56 : decode cX12_mean 56 = .ok (.invokestatic 348, 3) := by decide +kernel
theorem dX12_mean_59 : decode cX12_mean 59 = .ok (.iadd, 1) := by decide +kernel
theorem dX12_mean_60 : decode cX12_mean 60 = .ok (.istore_n 2, 1) := by decide +kernel
theorem dX12_mean_61 : decode cX12_mean 61 = .ok (.iinc 3 1, 3) := by decide +kernel
theorem dX12_mean_64 : decode cX12_mean 64 = .ok (.goto (-28), 3) := by decide +kernel
theorem dX12_mean_67 : decode cX12_mean 67 = .ok (.aload_n 0, 1) := by decide +kernel
theorem dX12_mean_68 : decode cX12_mean 68 = .ok (.getfield 33, 3) := by decide +kernel
theorem dX12_mean_71 : decode cX12_mean 71 = .ok (.iconst 1, 1) := by decide +kernel
theorem dX12_mean_72 : decode cX12_mean 72 = .ok (.iaload, 1) := by decide +kernel
theorem dX12_mean_73 : decode cX12_mean 73 = .ok (.istore_n 3, 1) := by decide +kernel
theorem dX12_mean_74 : decode cX12_mean 74 = .ok (.iload_n 2, 1) := by decide +kernel
theorem dX12_mean_75 : decode cX12_mean 75 = .ok (.istore 4, 2) := by decide +kernel
theorem dX12_mean_77 : decode cX12_mean 77 = .ok (.iload 4, 2) := by decide +kernel
theorem dX12_mean_79 : decode cX12_mean 79 = .ok (.ifCond .eq 19, 3) := by decide +kernel
theorem dX12_mean_82 : decode cX12_mean 82 = .ok (.iload_n 3, 1) := by decide +kernel
theorem dX12_mean_83 : decode cX12_mean 83 = .ok (.iload 4, 2) := by decide +kernel
theorem dX12_mean_85 : decode cX12_mean 85 = .ok (.irem, 1) := by decide +kernel
theorem dX12_mean_86 : decode cX12_mean 86 = .ok (.istore 5, 2) := by decide +kernel
theorem dX12_mean_88 : decode cX12_mean 88 = .ok (.iload 4, 2) := by decide +kernel
theorem dX12_mean_90 : decode cX12_mean 90 = .ok (.istore_n 3, 1) := by decide +kernel
theorem dX12_mean_91 : decode cX12_mean 91 = .ok (.iload 5, 2) := by decide +kernel
theorem dX12_mean_93 : decode cX12_mean 93 = .ok (.istore 4, 2) := by decide +kernel
theorem dX12_mean_95 : decode cX12_mean 95 = .ok (.goto (-18), 3) := by decide +kernel
theorem dX12_mean_98 : decode cX12_mean 98 = .ok (.iload_n 1, 1) := by decide +kernel
theorem dX12_mean_99 : decode cX12_mean 99 = .ok (.ifCond .ne 7, 3) := by decide +kernel
theorem dX12_mean_102 : decode cX12_mean 102 = .ok (.iload_n 2, 1) := by decide +kernel
theorem dX12_mean_103 : decode cX12_mean 103 = .ok (.goto 9, 3) := by decide +kernel
theorem dX12_mean_106 : decode cX12_mean 106 = .ok (.aload_n 0, 1) := by decide +kernel
theorem dX12_mean_107 : decode cX12_mean 107 = .ok (.getfield 33, 3) := by decide +kernel
theorem dX12_mean_110 : decode cX12_mean 110 = .ok (.iconst 1, 1) := by decide +kernel
theorem dX12_mean_111 : decode cX12_mean 111 = .ok (.iaload, 1) := by decide +kernel
theorem dX12_mean_112 : decode cX12_mean 112 = .ok (.iload_n 3, 1) := by decide +kernel
theorem dX12_mean_113 : decode cX12_mean 113 = .ok (.idiv, 1) := by decide +kernel
theorem dX12_mean_114 : decode cX12_mean 114 = .ok (.ireturn, 1) := by decide +kernel
theorem dX12_lays_0 : decode cX12_lays 0 = .ok (.aload_n 0, 1) := by decide +kernel
theorem dX12_lays_1 : decode cX12_lays 1 = .ok (.getfield 69, 3) := by decide +kernel
theorem dX12_lays_4 : decode cX12_lays 4 = .ok (.aload_n 0, 1) := by decide +kernel
theorem dX12_lays_5 : decode cX12_lays 5 = .ok (.getfield 385, 3) := by decide +kernel
theorem dX12_lays_8 : decode cX12_lays 8 = .ok (.iload_n 1, 1) := by decide +kernel
theorem dX12_lays_9 : decode cX12_lays 9 = .ok (.i2b, 1) := by decide +kernel
theorem dX12_lays_10 : decode cX12_lays 10 = .ok (.bastore, 1) := by decide +kernel
theorem dX12_lays_11 : decode cX12_lays 11 = .ok (.aload_n 0, 1) := by decide +kernel
theorem dX12_lays_12 : decode cX12_lays 12 = .ok (.dup, 1) := by decide +kernel
theorem dX12_lays_13 : decode cX12_lays 13 = .ok (.getfield 385, 3) := by decide +kernel
theorem dX12_lays_16 : decode cX12_lays 16 = .ok (.iconst 1, 1) := by decide +kernel
theorem dX12_lays_17 : decode cX12_lays 17 = .ok (.iadd, 1) := by decide +kernel
theorem dX12_lays_18 : decode cX12_lays 18 = .ok (.putfield 385, 3) := by decide +kernel
theorem dX12_lays_21 : decode cX12_lays 21 = .ok (.return_, 1) := by decide +kernel
theorem dX12_spells_0 : decode cX12_spells 0 = .ok (.bipush 56, 2) := by decide +kernel
theorem dX12_spells_2 : decode cX12_spells 2 = .ok (.istore_n 3, 1) := by decide +kernel
theorem dX12_spells_3 : decode cX12_spells 3 = .ok (.iload_n 3, 1) := by decide +kernel
theorem dX12_spells_4 : decode cX12_spells 4 = .ok (.ifCond .lt 33, 3) := by decide +kernel
theorem dX12_spells_7 : decode cX12_spells 7 = .ok (.lload_n 1, 1) := by decide +kernel
theorem dX12_spells_8 : decode cX12_spells 8 = .ok (.iload_n 3, 1) := by decide +kernel
theorem dX12_spells_9 : decode cX12_spells 9 = .ok (.lshr, 1) := by decide +kernel
theorem dX12_spells_10 : decode cX12_spells 10 = .ok (.ldc2_w 388, 3) := by decide +kernel
theorem dX12_spells_13 : decode cX12_spells 13 = .ok (.land, 1) := by decide +kernel
theorem dX12_spells_14 : decode cX12_spells 14 = .ok (.lconst 0, 1) := by decide +kernel
theorem dX12_spells_15 : decode cX12_spells 15 = .ok (.lcmp, 1) := by decide +kernel
theorem dX12_spells_16 : decode cX12_spells 16 = .ok (.ifCond .eq 15, 3) := by decide +kernel
theorem dX12_spells_19 : decode cX12_spells 19 = .ok (.aload_n 0, 1) := by decide +kernel
theorem dX12_spells_20 : decode cX12_spells 20 = .ok (.lload_n 1, 1) := by decide +kernel
theorem dX12_spells_21 : decode cX12_spells 21 = .ok (.iload_n 3, 1) := by decide +kernel
theorem dX12_spells_22 : decode cX12_spells 22 = .ok (.lshr, 1) := by decide +kernel
theorem dX12_spells_23 : decode cX12_spells 23 = .ok (.ldc2_w 388, 3) := by decide +kernel
theorem dX12_spells_26 : decode cX12_spells 26 = .ok (.land, 1) := by decide +kernel
theorem dX12_spells_27 : decode cX12_spells 27 = .ok (.l2i, 1) := by decide +kernel
theorem dX12_spells_28 : decode cX12_spells 28 = .ok (.invokevirtual 390, 3) := by decide +kernel
theorem dX12_spells_31 : decode cX12_spells 31 = .ok (.iinc 3 (-8), 3) := by decide +kernel
theorem dX12_spells_34 : decode cX12_spells 34 = .ok (.goto (-31), 3) := by decide +kernel
theorem dX12_spells_37 : decode cX12_spells 37 = .ok (.return_, 1) := by decide +kernel
theorem dX12_says_0 : decode cX12_says 0 = .ok (.aload_n 0, 1) := by decide +kernel
theorem dX12_says_1 : decode cX12_says 1 = .ok (.bipush 32, 2) := by decide +kernel
theorem dX12_says_3 : decode cX12_says 3 = .ok (.invokevirtual 390, 3) := by decide +kernel
theorem dX12_says_6 : decode cX12_says 6 = .ok (.aload_n 0, 1) := by decide +kernel
theorem dX12_says_7 : decode cX12_says 7 = .ok (.lload_n 1, 1) := by decide +kernel
theorem dX12_says_8 : decode cX12_says 8 = .ok (.invokevirtual 393, 3) := by decide +kernel
theorem dX12_says_11 : decode cX12_says 11 = .ok (.return_, 1) := by decide +kernel
theorem dX12_tag_0 : decode cX12_tag 0 = .ok (.aload_n 0, 1) := by decide +kernel
theorem dX12_tag_1 : decode cX12_tag 1 = .ok (.iconst 0, 1) := by decide +kernel
theorem dX12_tag_2 : decode cX12_tag 2 = .ok (.putfield 1, 3) := by decide +kernel
theorem dX12_tag_5 : decode cX12_tag 5 = .ok (.aload_n 0, 1) := by decide +kernel
theorem dX12_tag_6 : decode cX12_tag 6 = .ok (.iload_n 1, 1) := by decide +kernel
theorem dX12_tag_7 : decode cX12_tag 7 = .ok (.invokevirtual 290, 3) := by decide +kernel
theorem dX12_tag_10 : decode cX12_tag 10 = .ok (.ifCond .ne 5, 3) := by decide +kernel
theorem dX12_tag_13 : decode cX12_tag 13 = .ok (.iconst (-1), 1) := by decide +kernel
theorem dX12_tag_14 : decode cX12_tag 14 = .ok (.ireturn, 1) := by decide +kernel
theorem dX12_tag_15 : decode cX12_tag 15 = .ok (.aload_n 0, 1) := by decide +kernel
theorem dX12_tag_16 : decode cX12_tag 16 = .ok (.iconst 0, 1) := by decide +kernel
theorem dX12_tag_17 : decode cX12_tag 17 = .ok (.putfield 385, 3) := by decide +kernel
theorem dX12_tag_20 : decode cX12_tag 20 = .ok (.aload_n 0, 1) := by decide +kernel
theorem dX12_tag_21 : decode cX12_tag 21 = .ok (.aload_n 0, 1) := by decide +kernel
theorem dX12_tag_22 : decode cX12_tag 22 = .ok (.getfield 43, 3) := by decide +kernel
theorem dX12_tag_25 : decode cX12_tag 25 = .ok (.bipush 6, 2) := by decide +kernel
theorem dX12_tag_27 : decode cX12_tag 27 = .ok (.iload_n 1, 1) := by decide +kernel
theorem dX12_tag_28 : decode cX12_tag 28 = .ok (.iadd, 1) := by decide +kernel
theorem dX12_tag_29 : decode cX12_tag 29 = .ok (.laload, 1) := by decide +kernel
theorem dX12_tag_30 : decode cX12_tag 30 = .ok (.invokevirtual 393, 3) := by decide +kernel
theorem dX12_tag_33 : decode cX12_tag 33 = .ok (.aload_n 0, 1) := by decide +kernel
theorem dX12_tag_34 : decode cX12_tag 34 = .ok (.getfield 33, 3) := by decide +kernel
theorem dX12_tag_37 : decode cX12_tag 37 = .ok (.bipush 73, 2) := by decide +kernel
theorem dX12_tag_39 : decode cX12_tag 39 = .ok (.iload_n 1, 1) := by decide +kernel
theorem dX12_tag_40 : decode cX12_tag 40 = .ok (.iadd, 1) := by decide +kernel
theorem dX12_tag_41 : decode cX12_tag 41 = .ok (.iaload, 1) := by decide +kernel
theorem dX12_tag_42 : decode cX12_tag 42 = .ok (.ifCond .eq 74, 3) := by decide +kernel
theorem dX12_tag_45 : decode cX12_tag 45 = .ok (.aload_n 0, 1) := by decide +kernel
theorem dX12_tag_46 : decode cX12_tag 46 = .ok (.getfield 33, 3) := by decide +kernel
theorem dX12_tag_49 : decode cX12_tag 49 = .ok (.bipush 73, 2) := by decide +kernel
theorem dX12_tag_51 : decode cX12_tag 51 = .ok (.iload_n 1, 1) := by decide +kernel
theorem dX12_tag_52 : decode cX12_tag 52 = .ok (.iadd, 1) := by decide +kernel
theorem dX12_tag_53 : decode cX12_tag 53 = .ok (.iaload, 1) := by decide +kernel
theorem dX12_tag_54 : decode cX12_tag 54 = .ok (.iconst 1, 1) := by decide +kernel
theorem dX12_tag_55 : decode cX12_tag 55 = .ok (.if_icmp .ne 10, 3) := by decide +kernel
theorem dX12_tag_58 : decode cX12_tag 58 = .ok (.aload_n 0, 1) := by decide +kernel
theorem dX12_tag_59 : decode cX12_tag 59 = .ok (.ldc2_w 116, 3) := by decide +kernel
theorem dX12_tag_62 : decode cX12_tag 62 = .ok (.invokevirtual 397, 3) := by decide +kernel
theorem dX12_tag_65 : decode cX12_tag 65 = .ok (.aload_n 0, 1) := by decide +kernel
theorem dX12_tag_66 : decode cX12_tag 66 = .ok (.aload_n 0, 1) := by decide +kernel
theorem dX12_tag_67 : decode cX12_tag 67 = .ok (.getfield 33, 3) := by decide +kernel
theorem dX12_tag_70 : decode cX12_tag 70 = .ok (.bipush 73, 2) := by decide +kernel
theorem dX12_tag_72 : decode cX12_tag 72 = .ok (.iload_n 1, 1) := by decide +kernel
theorem dX12_tag_73 : decode cX12_tag 73 = .ok (.iadd, 1) := by decide +kernel
theorem dX12_tag_74 : decode cX12_tag 74 = .ok (.iaload, 1) := by decide +kernel
theorem dX12_tag_75 : decode cX12_tag 75 = .ok (.iconst 1, 1) := by decide +kernel
theorem dX12_tag_76 : decode cX12_tag 76 = .ok (.if_icmp .ne 9, 3) := by decide +kernel
theorem dX12_tag_79 : decode cX12_tag 79 = .ok (.ldc2_w 400, 3) := by decide +kernel
theorem dX12_tag_82 : decode cX12_tag 82 = .ok (.goto 6, 3) := by decide +kernel
theorem dX12_tag_85 : decode cX12_tag 85 = .ok (.ldc2_w 402, 3) := by decide +kernel
theorem dX12_tag_88 : decode cX12_tag 88 = .ok (.invokevirtual 397, 3) := by decide +kernel
theorem dX12_tag_91 : decode cX12_tag 91 = .ok (.aload_n 0, 1) := by decide +kernel
theorem dX12_tag_92 : decode cX12_tag 92 = .ok (.aload_n 0, 1) := by decide +kernel
theorem dX12_tag_93 : decode cX12_tag 93 = .ok (.getfield 43, 3) := by decide +kernel
theorem dX12_tag_96 : decode cX12_tag 96 = .ok (.aload_n 0, 1) := by decide +kernel
theorem dX12_tag_97 : decode cX12_tag 97 = .ok (.getfield 33, 3) := by decide +kernel
theorem dX12_tag_100 : decode cX12_tag 100 = .ok (.bipush 97, 2) := by decide +kernel
theorem dX12_tag_102 : decode cX12_tag 102 = .ok (.iload_n 1, 1) := by decide +kernel
theorem dX12_tag_103 : decode cX12_tag 103 = .ok (.iadd, 1) := by decide +kernel
theorem dX12_tag_104 : decode cX12_tag 104 = .ok (.iaload, 1) := by decide +kernel
theorem dX12_tag_105 : decode cX12_tag 105 = .ok (.iconst 1, 1) := by decide +kernel
theorem dX12_tag_106 : decode cX12_tag 106 = .ok (.isub, 1) := by decide +kernel
theorem dX12_tag_107 : decode cX12_tag 107 = .ok (.laload, 1) := by decide +kernel
theorem dX12_tag_108 : decode cX12_tag 108 = .ok (.invokevirtual 397, 3) := by decide +kernel
theorem dX12_tag_111 : decode cX12_tag 111 = .ok (.aload_n 0, 1) := by decide +kernel
theorem dX12_tag_112 : decode cX12_tag 112 = .ok (.getfield 385, 3) := by decide +kernel
theorem dX12_tag_115 : decode cX12_tag 115 = .ok (.ireturn, 1) := by decide +kernel
theorem dX12_tag_116 : decode cX12_tag 116 = .ok (.aload_n 0, 1) := by decide +kernel
theorem dX12_tag_117 : decode cX12_tag 117 = .ok (.ldc2_w 400, 3) := by decide +kernel
theorem dX12_tag_120 : decode cX12_tag 120 = .ok (.invokevirtual 397, 3) := by decide +kernel
theorem dX12_tag_123 : decode cX12_tag 123 = .ok (.aload_n 0, 1) := by decide +kernel
theorem dX12_tag_124 : decode cX12_tag 124 = .ok (.bipush 32, 2) := by decide +kernel
theorem dX12_tag_126 : decode cX12_tag 126 = .ok (.invokevirtual 390, 3) := by decide +kernel
theorem dX12_tag_129 : decode cX12_tag 129 = .ok (.aload_n 0, 1) := by decide +kernel
theorem dX12_tag_130 : decode cX12_tag 130 = .ok (.getfield 33, 3) := by decide +kernel
theorem dX12_tag_133 : decode cX12_tag 133 = .ok (.bipush 81, 2) := by decide +kernel
theorem dX12_tag_135 : decode cX12_tag 135 = .ok (.iload_n 1, 1) := by decide +kernel
theorem dX12_tag_136 : decode cX12_tag 136 = .ok (.iadd, 1) := by decide +kernel
theorem dX12_tag_137 : decode cX12_tag 137 = .ok (.iaload, 1) := by decide +kernel
theorem dX12_tag_138 : decode cX12_tag 138 = .ok (.bipush 9, 2) := by decide +kernel
theorem dX12_tag_140 : decode cX12_tag 140 = .ok (.if_icmp .le 22, 3) := by decide +kernel
theorem dX12_tag_143 : decode cX12_tag 143 = .ok (.aload_n 0, 1) := by decide +kernel
theorem dX12_tag_144 : decode cX12_tag 144 = .ok (.bipush 48, 2) := by decide +kernel
theorem dX12_tag_146 : decode cX12_tag 146 = .ok (.aload_n 0, 1) := by decide +kernel
theorem dX12_tag_147 : decode cX12_tag 147 = .ok (.getfield 33, 3) := by decide +kernel
theorem dX12_tag_150 : decode cX12_tag 150 = .ok (.bipush 81, 2) := by decide +kernel
theorem dX12_tag_152 : decode cX12_tag 152 = .ok (.iload_n 1, 1) := by decide +kernel
theorem dX12_tag_153 : decode cX12_tag 153 = .ok (.iadd, 1) := by decide +kernel
theorem dX12_tag_154 : decode cX12_tag 154 = .ok (.iaload, 1) := by decide +kernel
theorem dX12_tag_155 : decode cX12_tag 155 = .ok (.bipush 10, 2) := by decide +kernel
theorem dX12_tag_157 : decode cX12_tag 157 = .ok (.idiv, 1) := by decide +kernel
theorem dX12_tag_158 : decode cX12_tag 158 = .ok (.iadd, 1) := by decide +kernel
theorem dX12_tag_159 : decode cX12_tag 159 = .ok (.invokevirtual 390, 3) := by decide +kernel
theorem dX12_tag_162 : decode cX12_tag 162 = .ok (.aload_n 0, 1) := by decide +kernel
theorem dX12_tag_163 : decode cX12_tag 163 = .ok (.bipush 48, 2) := by decide +kernel
theorem dX12_tag_165 : decode cX12_tag 165 = .ok (.aload_n 0, 1) := by decide +kernel
theorem dX12_tag_166 : decode cX12_tag 166 = .ok (.getfield 33, 3) := by decide +kernel
theorem dX12_tag_169 : decode cX12_tag 169 = .ok (.bipush 81, 2) := by decide +kernel
theorem dX12_tag_171 : decode cX12_tag 171 = .ok (.iload_n 1, 1) := by decide +kernel
theorem dX12_tag_172 : decode cX12_tag 172 = .ok (.iadd, 1) := by decide +kernel
theorem dX12_tag_173 : decode cX12_tag 173 = .ok (.iaload, 1) := by decide +kernel
theorem dX12_tag_174 : decode cX12_tag 174 = .ok (.bipush 10, 2) := by decide +kernel
theorem dX12_tag_176 : decode cX12_tag 176 = .ok (.irem, 1) := by decide +kernel
theorem dX12_tag_177 : decode cX12_tag 177 = .ok (.iadd, 1) := by decide +kernel
theorem dX12_tag_178 : decode cX12_tag 178 = .ok (.invokevirtual 390, 3) := by decide +kernel
theorem dX12_tag_181 : decode cX12_tag 181 = .ok (.aload_n 0, 1) := by decide +kernel
theorem dX12_tag_182 : decode cX12_tag 182 = .ok (.aload_n 0, 1) := by decide +kernel
theorem dX12_tag_183 : decode cX12_tag 183 = .ok (.getfield 33, 3) := by decide +kernel
theorem dX12_tag_186 : decode cX12_tag 186 = .ok (.bipush 89, 2) := by decide +kernel
theorem dX12_tag_188 : decode cX12_tag 188 = .ok (.iload_n 1, 1) := by decide +kernel
theorem dX12_tag_189 : decode cX12_tag 189 = .ok (.iadd, 1) := by decide +kernel
theorem dX12_tag_190 : decode cX12_tag 190 = .ok (.iaload, 1) := by decide +kernel
theorem dX12_tag_191 : decode cX12_tag 191 = .ok (.ifCond .ne 9, 3) := by decide +kernel
theorem dX12_tag_194 : decode cX12_tag 194 = .ok (.ldc2_w 106, 3) := by decide +kernel
theorem dX12_tag_197 : decode cX12_tag 197 = .ok (.goto 25, 3) := by decide +kernel
theorem dX12_tag_200 : decode cX12_tag 200 = .ok (.aload_n 0, 1) := by decide +kernel
theorem dX12_tag_201 : decode cX12_tag 201 = .ok (.getfield 33, 3) := by decide +kernel
theorem dX12_tag_204 : decode cX12_tag 204 = .ok (.bipush 89, 2) := by decide +kernel
theorem dX12_tag_206 : decode cX12_tag 206 = .ok (.iload_n 1, 1) := by decide +kernel
theorem dX12_tag_207 : decode cX12_tag 207 = .ok (.iadd, 1) := by decide +kernel
theorem dX12_tag_208 : decode cX12_tag 208 = .ok (.iaload, 1) := by decide +kernel
theorem dX12_tag_209 : decode cX12_tag 209 = .ok (.iconst 1, 1) := by decide +kernel
theorem dX12_tag_210 : decode cX12_tag 210 = .ok (.if_icmp .ne 9, 3) := by decide +kernel
theorem dX12_tag_213 : decode cX12_tag 213 = .ok (.ldc2_w 108, 3) := by decide +kernel
theorem dX12_tag_216 : decode cX12_tag 216 = .ok (.goto 6, 3) := by decide +kernel
theorem dX12_tag_219 : decode cX12_tag 219 = .ok (.ldc2_w 110, 3) := by decide +kernel
theorem dX12_tag_222 : decode cX12_tag 222 = .ok (.invokevirtual 397, 3) := by decide +kernel
theorem dX12_tag_225 : decode cX12_tag 225 = .ok (.aload_n 0, 1) := by decide +kernel
theorem dX12_tag_226 : decode cX12_tag 226 = .ok (.getfield 385, 3) := by decide +kernel
theorem dX12_tag_229 : decode cX12_tag 229 = .ok (.ireturn, 1) := by decide +kernel
theorem dX12_byteAt_0 : decode cX12_byteAt 0 = .ok (.aload_n 0, 1) := by decide +kernel
theorem dX12_byteAt_1 : decode cX12_byteAt 1 = .ok (.iconst 0, 1) := by decide +kernel
theorem dX12_byteAt_2 : decode cX12_byteAt 2 = .ok (.putfield 1, 3) := by decide +kernel
theorem dX12_byteAt_5 : decode cX12_byteAt 5 = .ok (.iload_n 1, 1) := by decide +kernel
theorem dX12_byteAt_6 : decode cX12_byteAt 6 = .ok (.iconst 0, 1) := by decide +kernel
theorem dX12_byteAt_7 : decode cX12_byteAt 7 = .ok (.aload_n 0, 1) := by decide +kernel
theorem dX12_byteAt_8 : decode cX12_byteAt 8 = .ok (.getfield 385, 3) := by decide +kernel
theorem dX12_byteAt_11 : decode cX12_byteAt 11 = .ok (.iconst 1, 1) := by decide +kernel
theorem dX12_byteAt_12 : decode cX12_byteAt 12 = .ok (.isub, 1) := by decide +kernel
theorem dX12_byteAt_13 : decode cX12_byteAt 13 = .ok (.invokestatic 193, 3) := by decide +kernel
theorem dX12_byteAt_16 : decode cX12_byteAt 16 = .ok (.ifCond .eq 12, 3) := by decide +kernel
theorem dX12_byteAt_19 : decode cX12_byteAt 19 = .ok (.aload_n 0, 1) := by decide +kernel
theorem dX12_byteAt_20 : decode cX12_byteAt 20 = .ok (.getfield 69, 3) := by decide +kernel
theorem dX12_byteAt_23 : decode cX12_byteAt 23 = .ok (.iload_n 1, 1) := by decide +kernel
theorem dX12_byteAt_24 : decode cX12_byteAt 24 = .ok (.baload, 1) := by decide +kernel
theorem dX12_byteAt_25 : decode cX12_byteAt 25 = .ok (.goto 4, 3) := by decide +kernel
theorem dX12_byteAt_28 : decode cX12_byteAt 28 = .ok (.iconst (-1), 1) := by decide +kernel
theorem dX12_byteAt_29 : decode cX12_byteAt 29 = .ok (.ireturn, 1) := by decide +kernel
theorem dX12_draw_0 : decode cX12_draw 0 = .ok (.aload_n 0, 1) := by decide +kernel
theorem dX12_draw_1 : decode cX12_draw 1 = .ok (.aload_n 0, 1) := by decide +kernel
theorem dX12_draw_2 : decode cX12_draw 2 = .ok (.getfield 404, 3) := by decide +kernel
theorem dX12_draw_5 : decode cX12_draw 5 = .ok (.ldc_w 407, 3) := by decide +kernel
theorem dX12_draw_8 : decode cX12_draw 8 = .ok (.imul, 1) := by decide +kernel
theorem dX12_draw_9 : decode cX12_draw 9 = .ok (.sipush 12345, 3) := by decide +kernel
theorem dX12_draw_12 : decode cX12_draw 12 = .ok (.iadd, 1) := by decide +kernel
theorem dX12_draw_13 : decode cX12_draw 13 = .ok (.putfield 404, 3) := by decide +kernel
theorem dX12_draw_16 : decode cX12_draw 16 = .ok (.aload_n 0, 1) := by decide +kernel
theorem dX12_draw_17 : decode cX12_draw 17 = .ok (.getfield 404, 3) := by decide +kernel
theorem dX12_draw_20 : decode cX12_draw 20 = .ok (.bipush 8, 2) := by decide +kernel
theorem dX12_draw_22 : decode cX12_draw 22 = .ok (.iushr, 1) := by decide +kernel
theorem dX12_draw_23 : decode cX12_draw 23 = .ok (.iload_n 1, 1) := by decide +kernel
theorem dX12_draw_24 : decode cX12_draw 24 = .ok (.irem, 1) := by decide +kernel
theorem dX12_draw_25 : decode cX12_draw 25 = .ok (.ireturn, 1) := by decide +kernel
theorem dX12_drawPerson_0 : decode cX12_drawPerson 0 = .ok (.aload_n 0, 1) := by decide +kernel
theorem dX12_drawPerson_1 : decode cX12_drawPerson 1 = .ok (.bipush 8, 2) := by decide +kernel
theorem dX12_drawPerson_3 : decode cX12_drawPerson 3 = .ok (.invokevirtual 408, 3) := by decide +kernel
theorem dX12_drawPerson_6 : decode cX12_drawPerson 6 = .ok (.istore_n 2, 1) := by decide +kernel
theorem dX12_drawPerson_7 : decode cX12_drawPerson 7 = .ok (.iload_n 2, 1) := by decide +kernel
theorem dX12_drawPerson_8 : decode cX12_drawPerson 8 = .ok (.iconst 1, 1) := by decide +kernel
theorem dX12_drawPerson_9 : decode cX12_drawPerson 9 = .ok (.if_icmp .ne 28, 3) := by decide +kernel
theorem dX12_drawPerson_12 : decode cX12_drawPerson 12 = .ok (.aload_n 0, 1) := by decide +kernel
theorem dX12_drawPerson_13 : decode cX12_drawPerson 13 = .ok (.iconst 3, 1) := by decide +kernel
theorem dX12_drawPerson_14 : decode cX12_drawPerson 14 = .ok (.invokevirtual 408, 3) := by decide +kernel
theorem dX12_drawPerson_17 : decode cX12_drawPerson 17 = .ok (.istore_n 3, 1) := by decide +kernel
theorem dX12_drawPerson_18 : decode cX12_drawPerson 18 = .ok (.aload_n 0, 1) := by decide +kernel
theorem dX12_drawPerson_19 : decode cX12_drawPerson 19 = .ok (.iload_n 1, 1) := by decide +kernel
theorem dX12_drawPerson_20 : decode cX12_drawPerson 20 = .ok (.iload_n 3, 1) := by decide +kernel
theorem dX12_drawPerson_21 : decode cX12_drawPerson 21 = .ok (.invokevirtual 336, 3) := by decide +kernel
theorem dX12_drawPerson_24 : decode cX12_drawPerson 24 = .ok (.ifCond .ne 13, 3) := by decide +kernel
theorem dX12_drawPerson_27 : decode cX12_drawPerson 27 = .ok (.aload_n 0, 1) := by decide +kernel
theorem dX12_drawPerson_28 : decode cX12_drawPerson 28 = .ok (.getfield 33, 3) := by decide +kernel
theorem dX12_drawPerson_31 : decode cX12_drawPerson 31 = .ok (.bipush 89, 2) := by decide +kernel
theorem dX12_drawPerson_33 : decode cX12_drawPerson 33 = .ok (.iload_n 1, 1) := by decide +kernel
theorem dX12_drawPerson_34 : decode cX12_drawPerson 34 = .ok (.iadd, 1) := by decide +kernel
theorem dX12_drawPerson_35 : decode cX12_drawPerson 35 = .ok (.iload_n 3, 1) := by decide +kernel
theorem dX12_drawPerson_36 : decode cX12_drawPerson 36 = .ok (.iastore, 1) := by decide +kernel
theorem dX12_drawPerson_37 : decode cX12_drawPerson 37 = .ok (.iload_n 2, 1) := by decide +kernel
theorem dX12_drawPerson_38 : decode cX12_drawPerson 38 = .ok (.iconst 3, 1) := by decide +kernel
theorem dX12_drawPerson_39 : decode cX12_drawPerson 39 = .ok (.if_icmp .ne 23, 3) := by decide +kernel
theorem dX12_drawPerson_42 : decode cX12_drawPerson 42 = .ok (.aload_n 0, 1) := by decide +kernel
theorem dX12_drawPerson_43 : decode cX12_drawPerson 43 = .ok (.getfield 33, 3) := by decide +kernel
theorem dX12_drawPerson_46 : decode cX12_drawPerson 46 = .ok (.bipush 73, 2) := by decide +kernel
theorem dX12_drawPerson_48 : decode cX12_drawPerson 48 = .ok (.iload_n 1, 1) := by decide +kernel
theorem dX12_drawPerson_49 : decode cX12_drawPerson 49 = .ok (.iadd, 1) := by decide +kernel
theorem dX12_drawPerson_50 : decode cX12_drawPerson 50 = .ok (.iaload, 1) := by decide +kernel
theorem dX12_drawPerson_51 : decode cX12_drawPerson 51 = .ok (.iconst 1, 1) := by decide +kernel
theorem dX12_drawPerson_52 : decode cX12_drawPerson 52 = .ok (.if_icmp .ne 10, 3) := by decide +kernel
theorem dX12_drawPerson_55 : decode cX12_drawPerson 55 = .ok (.aload_n 0, 1) := by decide +kernel
theorem dX12_drawPerson_56 : decode cX12_drawPerson 56 = .ok (.iload_n 1, 1) := by decide +kernel
theorem dX12_drawPerson_57 : decode cX12_drawPerson 57 = .ok (.iconst 0, 1) := by decide +kernel
theorem dX12_drawPerson_58 : decode cX12_drawPerson 58 = .ok (.iconst (-1), 1) := by decide +kernel
theorem dX12_drawPerson_59 : decode cX12_drawPerson 59 = .ok (.invokevirtual 310, 3) := by decide +kernel
theorem dX12_drawPerson_62 : decode cX12_drawPerson 62 = .ok (.iload_n 2, 1) := by decide +kernel
theorem dX12_drawPerson_63 : decode cX12_drawPerson 63 = .ok (.ifCond .eq 8, 3) := by decide +kernel
theorem dX12_drawPerson_66 : decode cX12_drawPerson 66 = .ok (.iload_n 2, 1) := by decide +kernel
theorem dX12_drawPerson_67 : decode cX12_drawPerson 67 = .ok (.iconst 2, 1) := by decide +kernel
theorem dX12_drawPerson_68 : decode cX12_drawPerson 68 = .ok (.if_icmp .ne 12, 3) := by decide +kernel
theorem dX12_drawPerson_71 : decode cX12_drawPerson 71 = .ok (.aload_n 0, 1) := by decide +kernel
theorem dX12_drawPerson_72 : decode cX12_drawPerson 72 = .ok (.getfield 33, 3) := by decide +kernel
theorem dX12_drawPerson_75 : decode cX12_drawPerson 75 = .ok (.iconst 0, 1) := by decide +kernel
theorem dX12_drawPerson_76 : decode cX12_drawPerson 76 = .ok (.iaload, 1) := by decide +kernel
theorem dX12_drawPerson_77 : decode cX12_drawPerson 77 = .ok (.ifCond .ne 4, 3) := by decide +kernel
theorem dX12_drawPerson_80 : decode cX12_drawPerson 80 = .ok (.return_, 1) := by decide +kernel
theorem dX12_drawPerson_81 : decode cX12_drawPerson 81 = .ok (.aload_n 0, 1) := by decide +kernel
theorem dX12_drawPerson_82 : decode cX12_drawPerson 82 = .ok (.aload_n 0, 1) := by decide +kernel
theorem dX12_drawPerson_83 : decode cX12_drawPerson 83 = .ok (.getfield 33, 3) := by decide +kernel
theorem dX12_drawPerson_86 : decode cX12_drawPerson 86 = .ok (.iconst 0, 1) := by decide +kernel
theorem dX12_drawPerson_87 : decode cX12_drawPerson 87 = .ok (.iaload, 1) := by decide +kernel
theorem dX12_drawPerson_88 : decode cX12_drawPerson 88 = .ok (.invokevirtual 408, 3) := by decide +kernel
theorem dX12_drawPerson_91 : decode cX12_drawPerson 91 = .ok (.istore_n 3, 1) := by decide +kernel
theorem dX12_drawPerson_92 : decode cX12_drawPerson 92 = .ok (.iload_n 2, 1) := by decide +kernel
theorem dX12_drawPerson_93 : decode cX12_drawPerson 93 = .ok (.ifCond .ne 19, 3) := by decide +kernel
theorem dX12_drawPerson_96 : decode cX12_drawPerson 96 = .ok (.aload_n 0, 1) := by decide +kernel
theorem dX12_drawPerson_97 : decode cX12_drawPerson 97 = .ok (.iload_n 1, 1) := by decide +kernel
theorem dX12_drawPerson_98 : decode cX12_drawPerson 98 = .ok (.iload_n 3, 1) := by decide +kernel
theorem dX12_drawPerson_99 : decode cX12_drawPerson 99 = .ok (.invokevirtual 330, 3) := by decide +kernel
theorem dX12_drawPerson_102 : decode cX12_drawPerson 102 = .ok (.ifCond .ne 10, 3) := by decide +kernel
theorem dX12_drawPerson_105 : decode cX12_drawPerson 105 = .ok (.aload_n 0, 1) := by decide +kernel
theorem dX12_drawPerson_106 : decode cX12_drawPerson 106 = .ok (.iload_n 1, 1) := by decide +kernel
theorem dX12_drawPerson_107 : decode cX12_drawPerson 107 = .ok (.iconst 1, 1) := by decide +kernel
theorem dX12_drawPerson_108 : decode cX12_drawPerson 108 = .ok (.iload_n 3, 1) := by decide +kernel
theorem dX12_drawPerson_109 : decode cX12_drawPerson 109 = .ok (.invokevirtual 310, 3) := by decide +kernel
theorem dX12_drawPerson_112 : decode cX12_drawPerson 112 = .ok (.iload_n 2, 1) := by decide +kernel
theorem dX12_drawPerson_113 : decode cX12_drawPerson 113 = .ok (.iconst 2, 1) := by decide +kernel
theorem dX12_drawPerson_114 : decode cX12_drawPerson 114 = .ok (.if_icmp .ne 18, 3) := by decide +kernel
theorem dX12_drawPerson_117 : decode cX12_drawPerson 117 = .ok (.aload_n 0, 1) := by decide +kernel
theorem dX12_drawPerson_118 : decode cX12_drawPerson 118 = .ok (.iload_n 1, 1) := by decide +kernel
theorem dX12_drawPerson_119 : decode cX12_drawPerson 119 = .ok (.iload_n 3, 1) := by decide +kernel
theorem dX12_drawPerson_120 : decode cX12_drawPerson 120 = .ok (.invokevirtual 339, 3) := by decide +kernel
theorem dX12_drawPerson_123 : decode cX12_drawPerson 123 = .ok (.ifCond .ne 9, 3) := by decide +kernel
theorem dX12_drawPerson_126 : decode cX12_drawPerson 126 = .ok (.aload_n 0, 1) := by decide +kernel
theorem dX12_drawPerson_127 : decode cX12_drawPerson 127 = .ok (.iload_n 1, 1) := by decide +kernel
theorem dX12_drawPerson_128 : decode cX12_drawPerson 128 = .ok (.iload_n 3, 1) := by decide +kernel
theorem dX12_drawPerson_129 : decode cX12_drawPerson 129 = .ok (.invokevirtual 342, 3) := by decide +kernel
theorem dX12_drawPerson_132 : decode cX12_drawPerson 132 = .ok (.return_, 1) := by decide +kernel
theorem dX12_draws_0 : decode cX12_draws 0 = .ok (.aload_n 0, 1) := by decide +kernel
theorem dX12_draws_1 : decode cX12_draws 1 = .ok (.iload_n 2, 1) := by decide +kernel
theorem dX12_draws_2 : decode cX12_draws 2 = .ok (.putfield 404, 3) := by decide +kernel
theorem dX12_draws_5 : decode cX12_draws 5 = .ok (.iconst 0, 1) := by decide +kernel
theorem dX12_draws_6 : decode cX12_draws 6 = .ok (.istore_n 3, 1) := by decide +kernel
theorem dX12_draws_7 : decode cX12_draws 7 = .ok (.iload_n 3, 1) := by decide +kernel
theorem dX12_draws_8 : decode cX12_draws 8 = .ok (.iload_n 1, 1) := by decide +kernel
theorem dX12_draws_9 : decode cX12_draws 9 = .ok (.if_icmp .ge 52, 3) := by decide +kernel
theorem dX12_draws_12 : decode cX12_draws 12 = .ok (.aload_n 0, 1) := by decide +kernel
theorem dX12_draws_13 : decode cX12_draws 13 = .ok (.getfield 33, 3) := by decide +kernel
theorem dX12_draws_16 : decode cX12_draws 16 = .ok (.bipush 69, 2) := by decide +kernel
theorem dX12_draws_18 : decode cX12_draws 18 = .ok (.iaload, 1) := by decide +kernel
theorem dX12_draws_19 : decode cX12_draws 19 = .ok (.sipush 1000, 3) := by decide +kernel
theorem dX12_draws_22 : decode cX12_draws 22 = .ok (.if_icmp .ge 39, 3) := by decide +kernel
theorem dX12_draws_25 : decode cX12_draws 25 = .ok (.iconst 0, 1) := by decide +kernel
theorem dX12_draws_26 : decode cX12_draws 26 = .ok (.istore 4, 2) := by decide +kernel
theorem dX12_draws_28 : decode cX12_draws 28 = .ok (.iload 4, 2) := by decide +kernel
theorem dX12_draws_30 : decode cX12_draws 30 = .ok (.aload_n 0, 1) := by decide +kernel
theorem dX12_draws_31 : decode cX12_draws 31 = .ok (.getfield 33, 3) := by decide +kernel
theorem dX12_draws_34 : decode cX12_draws 34 = .ok (.iconst 1, 1) := by decide +kernel
theorem dX12_draws_35 : decode cX12_draws 35 = .ok (.iaload, 1) := by decide +kernel
theorem dX12_draws_36 : decode cX12_draws 36 = .ok (.if_icmp .ge 15, 3) := by decide +kernel
theorem dX12_draws_39 : decode cX12_draws 39 = .ok (.aload_n 0, 1) := by decide +kernel
theorem dX12_draws_40 : decode cX12_draws 40 = .ok (.iload 4, 2) := by decide +kernel
theorem dX12_draws_42 : decode cX12_draws 42 = .ok (.invokevirtual 411, 3) := by decide +kernel
theorem dX12_draws_45 : decode cX12_draws 45 = .ok (.iinc 4 1, 3) := by decide +kernel
theorem dX12_draws_48 : decode cX12_draws 48 = .ok (.goto (-20), 3) := by decide +kernel
theorem dX12_draws_51 : decode cX12_draws 51 = .ok (.aload_n 0, 1) := by decide +kernel
theorem dX12_draws_52 : decode cX12_draws 52 = .ok (.invokevirtual 327, 3) := by decide +kernel
theorem dX12_draws_55 : decode cX12_draws 55 = .ok (.iinc 3 1, 3) := by decide +kernel
theorem dX12_draws_58 : decode cX12_draws 58 = .ok (.goto (-51), 3) := by decide +kernel
theorem dX12_draws_61 : decode cX12_draws 61 = .ok (.iload_n 3, 1) := by decide +kernel
theorem dX12_draws_62 : decode cX12_draws 62 = .ok (.ireturn, 1) := by decide +kernel
theorem dX12_drawn_0 : decode cX12_drawn 0 = .ok (.aload_n 0, 1) := by decide +kernel
theorem dX12_drawn_1 : decode cX12_drawn 1 = .ok (.iconst 0, 1) := by decide +kernel
theorem dX12_drawn_2 : decode cX12_drawn 2 = .ok (.putfield 1, 3) := by decide +kernel
theorem dX12_drawn_5 : decode cX12_drawn 5 = .ok (.iload_n 1, 1) := by decide +kernel
theorem dX12_drawn_6 : decode cX12_drawn 6 = .ok (.iconst 1, 1) := by decide +kernel
theorem dX12_drawn_7 : decode cX12_drawn 7 = .ok (.bipush 60, 2) := by decide +kernel
theorem dX12_drawn_9 : decode cX12_drawn 9 = .ok (.invokestatic 193, 3) := by decide +kernel
theorem dX12_drawn_12 : decode cX12_drawn 12 = .ok (.ifCond .ne 5, 3) := by decide +kernel
theorem dX12_drawn_15 : decode cX12_drawn 15 = .ok (.iconst (-1), 1) := by decide +kernel
theorem dX12_drawn_16 : decode cX12_drawn 16 = .ok (.ireturn, 1) := by decide +kernel
theorem dX12_drawn_17 : decode cX12_drawn 17 = .ok (.aload_n 0, 1) := by decide +kernel
theorem dX12_drawn_18 : decode cX12_drawn 18 = .ok (.getfield 33, 3) := by decide +kernel
theorem dX12_drawn_21 : decode cX12_drawn 21 = .ok (.bipush 69, 2) := by decide +kernel
theorem dX12_drawn_23 : decode cX12_drawn 23 = .ok (.iaload, 1) := by decide +kernel
theorem dX12_drawn_24 : decode cX12_drawn 24 = .ok (.sipush 1000, 3) := by decide +kernel
theorem dX12_drawn_27 : decode cX12_drawn 27 = .ok (.if_icmp .ge 7, 3) := by decide +kernel
theorem dX12_drawn_30 : decode cX12_drawn 30 = .ok (.aload_n 0, 1) := by decide +kernel
theorem dX12_drawn_31 : decode cX12_drawn 31 = .ok (.invokevirtual 333, 3) := by decide +kernel
theorem dX12_drawn_34 : decode cX12_drawn 34 = .ok (.aload_n 0, 1) := by decide +kernel
theorem dX12_drawn_35 : decode cX12_drawn 35 = .ok (.iload_n 1, 1) := by decide +kernel
theorem dX12_drawn_36 : decode cX12_drawn 36 = .ok (.iload_n 2, 1) := by decide +kernel
theorem dX12_drawn_37 : decode cX12_drawn 37 = .ok (.invokevirtual 414, 3) := by decide +kernel
theorem dX12_drawn_40 : decode cX12_drawn 40 = .ok (.ireturn, 1) := by decide +kernel
theorem dX12_odds_0 : decode cX12_odds 0 = .ok (.aload_n 0, 1) := by decide +kernel
theorem dX12_odds_1 : decode cX12_odds 1 = .ok (.iconst 0, 1) := by decide +kernel
theorem dX12_odds_2 : decode cX12_odds 2 = .ok (.putfield 1, 3) := by decide +kernel
theorem dX12_odds_5 : decode cX12_odds 5 = .ok (.aload_n 0, 1) := by decide +kernel
theorem dX12_odds_6 : decode cX12_odds 6 = .ok (.iload_n 1, 1) := by decide +kernel
theorem dX12_odds_7 : decode cX12_odds 7 = .ok (.invokevirtual 290, 3) := by decide +kernel
theorem dX12_odds_10 : decode cX12_odds 10 = .ok (.ifCond .eq 13, 3) := by decide +kernel
theorem dX12_odds_13 : decode cX12_odds 13 = .ok (.iload_n 2, 1) := by decide +kernel
theorem dX12_odds_14 : decode cX12_odds 14 = .ok (.iconst 1, 1) := by decide +kernel
theorem dX12_odds_15 : decode cX12_odds 15 = .ok (.bipush 30, 2) := by decide +kernel
theorem dX12_odds_17 : decode cX12_odds 17 = .ok (.invokestatic 193, 3) := by decide +kernel
theorem dX12_odds_20 : decode cX12_odds 20 = .ok (.ifCond .ne 5, 3) := by decide +kernel
theorem dX12_odds_23 : decode cX12_odds 23 = .ok (.iconst (-1), 1) := by decide +kernel
theorem dX12_odds_24 : decode cX12_odds 24 = .ok (.ireturn, 1) := by decide +kernel
theorem dX12_odds_25 : decode cX12_odds 25 = .ok (.aload_n 0, 1) := by decide +kernel
theorem dX12_odds_26 : decode cX12_odds 26 = .ok (.invokevirtual 379, 3) := by decide +kernel
theorem dX12_odds_29 : decode cX12_odds 29 = .ok (.iconst 0, 1) := by decide +kernel
theorem dX12_odds_30 : decode cX12_odds 30 = .ok (.istore 4, 2) := by decide +kernel
theorem dX12_odds_32 : decode cX12_odds 32 = .ok (.iconst 0, 1) := by decide +kernel
theorem dX12_odds_33 : decode cX12_odds 33 = .ok (.istore 5, 2) := by decide +kernel
theorem dX12_odds_35 : decode cX12_odds 35 = .ok (.iload 5, 2) := by decide +kernel
theorem dX12_odds_37 : decode cX12_odds 37 = .ok (.iload_n 2, 1) := by decide +kernel
theorem dX12_odds_38 : decode cX12_odds 38 = .ok (.if_icmp .ge 47, 3) := by decide +kernel
theorem dX12_odds_41 : decode cX12_odds 41 = .ok (.aload_n 0, 1) := by decide +kernel
theorem dX12_odds_42 : decode cX12_odds 42 = .ok (.bipush 20, 2) := by decide +kernel
theorem dX12_odds_44 : decode cX12_odds 44 = .ok (.iload_n 3, 1) := by decide +kernel
theorem dX12_odds_45 : decode cX12_odds 45 = .ok (.iload 5, 2) := by decide +kernel
theorem dX12_odds_47 : decode cX12_odds 47 = .ok (.iadd, 1) := by decide +kernel
theorem dX12_odds_48 : decode cX12_odds 48 = .ok (.invokevirtual 414, 3) := by decide +kernel
theorem dX12_odds_51 : decode cX12_odds 51 = .ok (.pop, 1) := by decide +kernel
theorem dX12_odds_52 : decode cX12_odds 52 = .ok (.iload 4, 2) := by decide +kernel
theorem dX12_odds_54 : decode cX12_odds 54 = .ok (.aload_n 0, 1) := by decide +kernel
theorem dX12_odds_55 : decode cX12_odds 55 = .ok (.getfield 33, 3) := by decide +kernel
theorem dX12_odds_58 : decode cX12_odds 58 = .ok (.bipush 73, 2) := by decide +kernel
theorem dX12_odds_60 : decode cX12_odds 60 = .ok (.iload_n 1, 1) := by decide +kernel
theorem dX12_odds_61 : decode cX12_odds 61 = .ok (.iadd, 1) := by decide +kernel
theorem dX12_odds_62 : decode cX12_odds 62 = .ok (.iaload, 1) := by decide +kernel
theorem dX12_odds_63 : decode cX12_odds 63 = .ok (.iconst 2, 1) := by decide +kernel
theorem dX12_odds_64 : decode cX12_odds 64 = .ok (.if_icmp .ne 7, 3) := by decide +kernel
theorem dX12_odds_67 : decode cX12_odds 67 = .ok (.iconst 1, 1) := by decide +kernel
theorem dX12_odds_68 : decode cX12_odds 68 = .ok (.goto 4, 3) := by decide +kernel
theorem dX12_odds_71 : decode cX12_odds 71 = .ok (.iconst 0, 1) := by decide +kernel
theorem dX12_odds_72 : decode cX12_odds 72 = .ok (.iadd, 1) := by decide +kernel
theorem dX12_odds_73 : decode cX12_odds 73 = .ok (.istore 4, 2) := by decide +kernel
theorem dX12_odds_75 : decode cX12_odds 75 = .ok (.aload_n 0, 1) := by decide +kernel
theorem dX12_odds_76 : decode cX12_odds 76 = .ok (.invokevirtual 382, 3) := by decide +kernel
theorem dX12_odds_79 : decode cX12_odds 79 = .ok (.iinc 5 1, 3) := by decide +kernel
theorem dX12_odds_82 : decode cX12_odds 82 = .ok (.goto (-47), 3) := by decide +kernel
theorem dX12_odds_85 : decode cX12_odds 85 = .ok (.iload 4, 2) := by decide +kernel
theorem dX12_odds_87 : decode cX12_odds 87 = .ok (.ireturn, 1) := by decide +kernel
theorem dX12_bookLine_0 : decode cX12_bookLine 0 = .ok (.iconst 3, 1) := by decide +kernel
theorem dX12_bookLine_1 : decode cX12_bookLine 1 = .ok (.aload_n 0, 1) := by decide +kernel
theorem dX12_bookLine_2 : decode cX12_bookLine 2 = .ok (.getfield 417, 3) := by decide +kernel
theorem dX12_bookLine_5 : decode cX12_bookLine 5 = .ok (.imul, 1) := by decide +kernel
theorem dX12_bookLine_6 : decode cX12_bookLine 6 = .ok (.istore_n 1, 1) := by decide +kernel
theorem dX12_bookLine_7 : decode cX12_bookLine 7 = .ok (.aload_n 0, 1) := by decide +kernel
theorem dX12_bookLine_8 : decode cX12_bookLine 8 = .ok (.ldc2_w 124, 3) := by decide +kernel
theorem dX12_bookLine_11 : decode cX12_bookLine 11 = .ok (.invokevirtual 221, 3) := by decide +kernel
theorem dX12_bookLine_14 : decode cX12_bookLine 14 = .ok (.istore_n 2, 1) := by decide +kernel
theorem dX12_bookLine_15 : decode cX12_bookLine 15 = .ok (.iload_n 2, 1) := by decide +kernel
theorem dX12_bookLine_16 : decode cX12_bookLine 16 = .ok (.ifCond .ne 20, 3) := by decide +kernel
theorem dX12_bookLine_19 : decode cX12_bookLine 19 = .ok (.aload_n 0, 1) := by decide +kernel
theorem dX12_bookLine_20 : decode cX12_bookLine 20 = .ok (.bipush 6, 2) := by decide +kernel
theorem dX12_bookLine_22 : decode cX12_bookLine 22 = .ok (.aload_n 0, 1) := by decide +kernel
theorem dX12_bookLine_23 : decode cX12_bookLine 23 = .ok (.getfield 33, 3) := by decide +kernel
theorem dX12_bookLine_26 : decode cX12_bookLine 26 = .ok (.iconst 1, 1) := by decide +kernel
theorem dX12_bookLine_27 : decode cX12_bookLine 27 = .ok (.iaload, 1) := by decide +kernel
theorem dX12_bookLine_28 : decode cX12_bookLine 28 = .ok (.invokevirtual 212, 3) := by decide +kernel
theorem dX12_bookLine_31 : decode cX12_bookLine 31 = .ok (.ifCond .ne 5, 3) := by decide +kernel
theorem dX12_bookLine_34 : decode cX12_bookLine 34 = .ok (.iconst 0, 1) := by decide +kernel
theorem dX12_bookLine_35 : decode cX12_bookLine 35 = .ok (.ireturn, 1) := by decide +kernel
theorem dX12_bookLine_36 : decode cX12_bookLine 36 = .ok (.aload_n 0, 1) := by decide +kernel
theorem dX12_bookLine_37 : decode cX12_bookLine 37 = .ok (.getfield 417, 3) := by decide +kernel
theorem dX12_bookLine_40 : decode cX12_bookLine 40 = .ok (.bipush 40, 2) := by decide +kernel
theorem dX12_bookLine_42 : decode cX12_bookLine 42 = .ok (.if_icmp .ne 9, 3) := by decide +kernel
theorem dX12_bookLine_45 : decode cX12_bookLine 45 = .ok (.aload_n 0, 1) := by decide +kernel
theorem dX12_bookLine_46 : decode cX12_bookLine 46 = .ok (.iconst 4, 1) := by decide +kernel
theorem dX12_bookLine_47 : decode cX12_bookLine 47 = .ok (.invokevirtual 187, 3) := by decide +kernel
theorem dX12_bookLine_50 : decode cX12_bookLine 50 = .ok (.ireturn, 1) := by decide +kernel
theorem dX12_bookLine_51 : decode cX12_bookLine 51 = .ok (.aload_n 0, 1) := by decide +kernel
theorem dX12_bookLine_52 : decode cX12_bookLine 52 = .ok (.getfield 197, 3) := by decide +kernel
theorem dX12_bookLine_55 : decode cX12_bookLine 55 = .ok (.istore_n 3, 1) := by decide +kernel
theorem dX12_bookLine_56 : decode cX12_bookLine 56 = .ok (.aload_n 0, 1) := by decide +kernel
theorem dX12_bookLine_57 : decode cX12_bookLine 57 = .ok (.invokevirtual 190, 3) := by decide +kernel
theorem dX12_bookLine_60 : decode cX12_bookLine 60 = .ok (.iload_n 2, 1) := by decide +kernel
theorem dX12_bookLine_61 : decode cX12_bookLine 61 = .ok (.ifCond .eq 36, 3) := by decide +kernel
theorem dX12_bookLine_64 : decode cX12_bookLine 64 = .ok (.aload_n 0, 1) := by decide +kernel
theorem dX12_bookLine_65 : decode cX12_bookLine 65 = .ok (.getfield 40, 3) := by decide +kernel
theorem dX12_bookLine_68 : decode cX12_bookLine 68 = .ok (.iload_n 1, 1) := by decide +kernel
theorem dX12_bookLine_69 : decode cX12_bookLine 69 = .ok (.iconst 5, 1) := by decide +kernel
theorem dX12_bookLine_70 : decode cX12_bookLine 70 = .ok (.iastore, 1) := by decide +kernel
theorem dX12_bookLine_71 : decode cX12_bookLine 71 = .ok (.aload_n 0, 1) := by decide +kernel
theorem dX12_bookLine_72 : decode cX12_bookLine 72 = .ok (.iconst 1, 1) := by decide +kernel
theorem dX12_bookLine_73 : decode cX12_bookLine 73 = .ok (.bipush 60, 2) := by decide +kernel
theorem dX12_bookLine_75 : decode cX12_bookLine 75 = .ok (.invokevirtual 200, 3) := by decide +kernel
theorem dX12_bookLine_78 : decode cX12_bookLine 78 = .ok (.ifCond .ne 5, 3) := by decide +kernel
theorem dX12_bookLine_81 : decode cX12_bookLine 81 = .ok (.iconst 0, 1) := by decide +kernel
theorem dX12_bookLine_82 : decode cX12_bookLine 82 = .ok (.ireturn, 1) := by decide +kernel
theorem dX12_bookLine_83 : decode cX12_bookLine 83 = .ok (.aload_n 0, 1) := by decide +kernel
theorem dX12_bookLine_84 : decode cX12_bookLine 84 = .ok (.getfield 40, 3) := by decide +kernel
theorem dX12_bookLine_87 : decode cX12_bookLine 87 = .ok (.iload_n 1, 1) := by decide +kernel
theorem dX12_bookLine_88 : decode cX12_bookLine 88 = .ok (.iconst 1, 1) := by decide +kernel
theorem dX12_bookLine_89 : decode cX12_bookLine 89 = .ok (.iadd, 1) := by decide +kernel
theorem dX12_bookLine_90 : decode cX12_bookLine 90 = .ok (.aload_n 0, 1) := by decide +kernel
theorem dX12_bookLine_91 : decode cX12_bookLine 91 = .ok (.getfield 197, 3) := by decide +kernel
theorem dX12_bookLine_94 : decode cX12_bookLine 94 = .ok (.iastore, 1) := by decide +kernel
theorem dX12_bookLine_95 : decode cX12_bookLine 95 = .ok (.iconst 1, 1) := by decide +kernel
theorem dX12_bookLine_96 : decode cX12_bookLine 96 = .ok (.ireturn, 1) := by decide +kernel
theorem dX12_bookLine_97 : decode cX12_bookLine 97 = .ok (.aload_n 0, 1) := by decide +kernel
theorem dX12_bookLine_98 : decode cX12_bookLine 98 = .ok (.ldc2_w 116, 3) := by decide +kernel
theorem dX12_bookLine_101 : decode cX12_bookLine 101 = .ok (.invokevirtual 221, 3) := by decide +kernel
theorem dX12_bookLine_104 : decode cX12_bookLine 104 = .ok (.ifCond .eq 7, 3) := by decide +kernel
theorem dX12_bookLine_107 : decode cX12_bookLine 107 = .ok (.iconst 0, 1) := by decide +kernel
theorem dX12_bookLine_108 : decode cX12_bookLine 108 = .ok (.goto 60, 3) := by decide +kernel
theorem dX12_bookLine_111 : decode cX12_bookLine 111 = .ok (.aload_n 0, 1) := by decide +kernel
theorem dX12_bookLine_112 : decode cX12_bookLine 112 = .ok (.ldc2_w 118, 3) := by decide +kernel
theorem dX12_bookLine_115 : decode cX12_bookLine 115 = .ok (.invokevirtual 221, 3) := by decide +kernel
theorem dX12_bookLine_118 : decode cX12_bookLine 118 = .ok (.ifCond .eq 7, 3) := by decide +kernel
theorem dX12_bookLine_121 : decode cX12_bookLine 121 = .ok (.iconst 1, 1) := by decide +kernel
theorem dX12_bookLine_122 : decode cX12_bookLine 122 = .ok (.goto 46, 3) := by decide +kernel
theorem dX12_bookLine_125 : decode cX12_bookLine 125 = .ok (.aload_n 0, 1) := by decide +kernel
theorem dX12_bookLine_126 : decode cX12_bookLine 126 = .ok (.ldc2_w 120, 3) := by decide +kernel
theorem dX12_bookLine_129 : decode cX12_bookLine 129 = .ok (.invokevirtual 221, 3) := by decide +kernel
theorem dX12_bookLine_132 : decode cX12_bookLine 132 = .ok (.ifCond .eq 7, 3) := by decide +kernel
theorem dX12_bookLine_135 : decode cX12_bookLine 135 = .ok (.iconst 2, 1) := by decide +kernel
theorem dX12_bookLine_136 : decode cX12_bookLine 136 = .ok (.goto 32, 3) := by decide +kernel
theorem dX12_bookLine_139 : decode cX12_bookLine 139 = .ok (.aload_n 0, 1) := by decide +kernel
theorem dX12_bookLine_140 : decode cX12_bookLine 140 = .ok (.ldc2_w 122, 3) := by decide +kernel
theorem dX12_bookLine_143 : decode cX12_bookLine 143 = .ok (.invokevirtual 221, 3) := by decide +kernel
theorem dX12_bookLine_146 : decode cX12_bookLine 146 = .ok (.ifCond .eq 7, 3) := by decide +kernel
theorem dX12_bookLine_149 : decode cX12_bookLine 149 = .ok (.iconst 3, 1) := by decide +kernel
theorem dX12_bookLine_150 : decode cX12_bookLine 150 = .ok (.goto 18, 3) := by decide +kernel
theorem dX12_bookLine_153 : decode cX12_bookLine 153 = .ok (.aload_n 0, 1) := by decide +kernel
theorem dX12_bookLine_154 : decode cX12_bookLine 154 = .ok (.ldc2_w 100, 3) := by decide +kernel
theorem dX12_bookLine_157 : decode cX12_bookLine 157 = .ok (.invokevirtual 221, 3) := by decide +kernel
theorem dX12_bookLine_160 : decode cX12_bookLine 160 = .ok (.ifCond .eq 7, 3) := by decide +kernel
theorem dX12_bookLine_163 : decode cX12_bookLine 163 = .ok (.iconst 4, 1) := by decide +kernel
theorem dX12_bookLine_164 : decode cX12_bookLine 164 = .ok (.goto 4, 3) := by decide +kernel
theorem dX12_bookLine_167 : decode cX12_bookLine 167 = .ok (.iconst (-1), 1) := by decide +kernel
theorem dX12_bookLine_168 : decode cX12_bookLine 168 = .ok (.istore 4, 2) := by decide +kernel
theorem dX12_bookLine_170 : decode cX12_bookLine 170 = .ok (.iload 4, 2) := by decide +kernel
theorem dX12_bookLine_172 : decode cX12_bookLine 172 = .ok (.ifCond .ge 9, 3) := by decide +kernel
theorem dX12_bookLine_175 : decode cX12_bookLine 175 = .ok (.aload_n 0, 1) := by decide +kernel
theorem dX12_bookLine_176 : decode cX12_bookLine 176 = .ok (.iconst 1, 1) := by decide +kernel
theorem dX12_bookLine_177 : decode cX12_bookLine 177 = .ok (.invokevirtual 187, 3) := by decide +kernel
theorem dX12_bookLine_180 : decode cX12_bookLine 180 = .ok (.ireturn, 1) := by decide +kernel
theorem dX12_bookLine_181 : decode cX12_bookLine 181 = .ok (.aload_n 0, 1) := by decide +kernel
theorem dX12_bookLine_182 : decode cX12_bookLine 182 = .ok (.invokevirtual 190, 3) := by decide +kernel
theorem dX12_bookLine_185 : decode cX12_bookLine 185 = .ok (.aload_n 0, 1) := by decide +kernel
theorem dX12_bookLine_186 : decode cX12_bookLine 186 = .ok (.getfield 40, 3) := by decide +kernel
theorem dX12_bookLine_189 : decode cX12_bookLine 189 = .ok (.iload_n 1, 1) := by decide +kernel
theorem dX12_bookLine_190 : decode cX12_bookLine 190 = .ok (.iload 4, 2) := by decide +kernel
theorem dX12_bookLine_192 : decode cX12_bookLine 192 = .ok (.iastore, 1) := by decide +kernel
theorem dX12_bookLine_193 : decode cX12_bookLine 193 = .ok (.aload_n 0, 1) := by decide +kernel
theorem dX12_bookLine_194 : decode cX12_bookLine 194 = .ok (.getfield 40, 3) := by decide +kernel
theorem dX12_bookLine_197 : decode cX12_bookLine 197 = .ok (.iload_n 1, 1) := by decide +kernel
theorem dX12_bookLine_198 : decode cX12_bookLine 198 = .ok (.iconst 1, 1) := by decide +kernel
theorem dX12_bookLine_199 : decode cX12_bookLine 199 = .ok (.iadd, 1) := by decide +kernel
theorem dX12_bookLine_200 : decode cX12_bookLine 200 = .ok (.iload_n 3, 1) := by decide +kernel
theorem dX12_bookLine_201 : decode cX12_bookLine 201 = .ok (.iastore, 1) := by decide +kernel
theorem dX12_bookLine_202 : decode cX12_bookLine 202 = .ok (.iload 4, 2) := by decide +kernel
theorem dX12_bookLine_204 : decode cX12_bookLine 204 = .ok (.iconst 2, 1) := by decide +kernel
theorem dX12_bookLine_205 : decode cX12_bookLine 205 = .ok (.if_icmp .ne 5, 3) := by decide +kernel
theorem dX12_bookLine_208 : decode cX12_bookLine 208 = .ok (.iconst 1, 1) := by decide +kernel
theorem dX12_bookLine_209 : decode cX12_bookLine 209 = .ok (.ireturn, 1) := by decide +kernel
theorem dX12_bookLine_210 : decode cX12_bookLine 210 = .ok (.iload 4, 2) := by decide +kernel
theorem dX12_bookLine_212 : decode cX12_bookLine 212 = .ok (.iconst 3, 1) := by decide +kernel
theorem dX12_bookLine_213 : decode cX12_bookLine 213 = .ok (.if_icmp .ne 52, 3) := by decide +kernel
theorem dX12_bookLine_216 : decode cX12_bookLine 216 = .ok (.aload_n 0, 1) := by decide +kernel
theorem dX12_bookLine_217 : decode cX12_bookLine 217 = .ok (.bipush 6, 2) := by decide +kernel
theorem dX12_bookLine_219 : decode cX12_bookLine 219 = .ok (.aload_n 0, 1) := by decide +kernel
theorem dX12_bookLine_220 : decode cX12_bookLine 220 = .ok (.getfield 33, 3) := by decide +kernel
theorem dX12_bookLine_223 : decode cX12_bookLine 223 = .ok (.iconst 1, 1) := by decide +kernel
theorem dX12_bookLine_224 : decode cX12_bookLine 224 = .ok (.iaload, 1) := by decide +kernel
theorem dX12_bookLine_225 : decode cX12_bookLine 225 = .ok (.invokevirtual 212, 3) := by decide +kernel
theorem dX12_bookLine_228 : decode cX12_bookLine 228 = .ok (.ifCond .ne 5, 3) := by decide +kernel
theorem dX12_bookLine_231 : decode cX12_bookLine 231 = .ok (.iconst 0, 1) := by decide +kernel
theorem dX12_bookLine_232 : decode cX12_bookLine 232 = .ok (.ireturn, 1) := by decide +kernel
theorem dX12_bookLine_233 : decode cX12_bookLine 233 = .ok (.aload_n 0, 1) := by decide +kernel
theorem dX12_bookLine_234 : decode cX12_bookLine 234 = .ok (.getfield 197, 3) := by decide +kernel
theorem dX12_bookLine_237 : decode cX12_bookLine 237 = .ok (.iload_n 3, 1) := by decide +kernel
theorem dX12_bookLine_238 : decode cX12_bookLine 238 = .ok (.if_icmp .ne 9, 3) := by decide +kernel
theorem dX12_bookLine_241 : decode cX12_bookLine 241 = .ok (.aload_n 0, 1) := by decide +kernel
theorem dX12_bookLine_242 : decode cX12_bookLine 242 = .ok (.iconst 3, 1) := by decide +kernel
theorem dX12_bookLine_243 : decode cX12_bookLine 243 = .ok (.invokevirtual 187, 3) := by decide +kernel
theorem dX12_bookLine_246 : decode cX12_bookLine 246 = .ok (.ireturn, 1) := by decide +kernel
theorem dX12_bookLine_247 : decode cX12_bookLine 247 = .ok (.aload_n 0, 1) := by decide +kernel
theorem dX12_bookLine_248 : decode cX12_bookLine 248 = .ok (.getfield 40, 3) := by decide +kernel
theorem dX12_bookLine_251 : decode cX12_bookLine 251 = .ok (.iload_n 1, 1) := by decide +kernel
theorem dX12_bookLine_252 : decode cX12_bookLine 252 = .ok (.iconst 2, 1) := by decide +kernel
theorem dX12_bookLine_253 : decode cX12_bookLine 253 = .ok (.iadd, 1) := by decide +kernel
theorem dX12_bookLine_254 : decode cX12_bookLine 254 = .ok (.aload_n 0, 1) := by decide +kernel
theorem dX12_bookLine_255 : decode cX12_bookLine 255 = .ok (.getfield 197, 3) := by decide +kernel
theorem dX12_bookLine_258 : decode cX12_bookLine 258 = .ok (.iastore, 1) := by decide +kernel
theorem dX12_bookLine_259 : decode cX12_bookLine 259 = .ok (.aload_n 0, 1) := by decide +kernel
theorem dX12_bookLine_260 : decode cX12_bookLine 260 = .ok (.invokevirtual 190, 3) := by decide +kernel
theorem dX12_bookLine_263 : decode cX12_bookLine 263 = .ok (.iconst 1, 1) := by decide +kernel
theorem dX12_bookLine_264 : decode cX12_bookLine 264 = .ok (.ireturn, 1) := by decide +kernel
theorem dX12_bookLine_265 : decode cX12_bookLine 265 = .ok (.iload 4, 2) := by decide +kernel
theorem dX12_bookLine_267 : decode cX12_bookLine 267 = .ok (.iconst 1, 1) := by decide +kernel
theorem dX12_bookLine_268 : decode cX12_bookLine 268 = .ok (.if_icmp .ne 10, 3) := by decide +kernel
theorem dX12_bookLine_271 : decode cX12_bookLine 271 = .ok (.aload_n 0, 1) := by decide +kernel
theorem dX12_bookLine_272 : decode cX12_bookLine 272 = .ok (.invokevirtual 252, 3) := by decide +kernel
theorem dX12_bookLine_275 : decode cX12_bookLine 275 = .ok (.goto 14, 3) := by decide +kernel
theorem dX12_bookLine_278 : decode cX12_bookLine 278 = .ok (.aload_n 0, 1) := by decide +kernel
theorem dX12_bookLine_279 : decode cX12_bookLine 279 = .ok (.iconst 0, 1) := by decide +kernel
theorem dX12_bookLine_280 : decode cX12_bookLine 280 = .ok (.aload_n 0, 1) := by decide +kernel
theorem dX12_bookLine_281 : decode cX12_bookLine 281 = .ok (.getfield 33, 3) := by decide +kernel
theorem dX12_bookLine_284 : decode cX12_bookLine 284 = .ok (.iconst 0, 1) := by decide +kernel
theorem dX12_bookLine_285 : decode cX12_bookLine 285 = .ok (.iaload, 1) := by decide +kernel
theorem dX12_bookLine_286 : decode cX12_bookLine 286 = .ok (.invokevirtual 249, 3) := by decide +kernel
theorem dX12_bookLine_289 : decode cX12_bookLine 289 = .ok (.istore 5, 2) := by decide +kernel
theorem dX12_bookLine_291 : decode cX12_bookLine 291 = .ok (.aload_n 0, 1) := by decide +kernel
theorem dX12_bookLine_292 : decode cX12_bookLine 292 = .ok (.getfield 40, 3) := by decide +kernel
theorem dX12_bookLine_295 : decode cX12_bookLine 295 = .ok (.iload_n 1, 1) := by decide +kernel
theorem dX12_bookLine_296 : decode cX12_bookLine 296 = .ok (.iconst 2, 1) := by decide +kernel
theorem dX12_bookLine_297 : decode cX12_bookLine 297 = .ok (.iadd, 1) := by decide +kernel
theorem dX12_bookLine_298 : decode cX12_bookLine 298 = .ok (.aload_n 0, 1) := by decide +kernel
theorem dX12_bookLine_299 : decode cX12_bookLine 299 = .ok (.getfield 197, 3) := by decide +kernel
theorem dX12_bookLine_302 : decode cX12_bookLine 302 = .ok (.iastore, 1) := by decide +kernel
theorem dX12_bookLine_303 : decode cX12_bookLine 303 = .ok (.iload 5, 2) := by decide +kernel
theorem dX12_bookLine_305 : decode cX12_bookLine 305 = .ok (.ireturn, 1) := by decide +kernel
theorem dX12_does_0 : decode cX12_does 0 = .ok (.iconst 0, 1) := by decide +kernel
theorem dX12_does_1 : decode cX12_does 1 = .ok (.istore 4, 2) := by decide +kernel
theorem dX12_does_3 : decode cX12_does 3 = .ok (.iload_n 1, 1) := by decide +kernel
theorem dX12_does_4 : decode cX12_does 4 = .ok (.tableswitch 176 0 4 #[36, 59, 85, 120, 154], 36) := by decide +kernel
theorem dX12_does_40 : decode cX12_does 40 = .ok (.aload_n 0, 1) := by decide +kernel
theorem dX12_does_41 : decode cX12_does 41 = .ok (.iload_n 2, 1) := by decide +kernel
theorem dX12_does_42 : decode cX12_does 42 = .ok (.iload_n 3, 1) := by decide +kernel
theorem dX12_does_43 : decode cX12_does 43 = .ok (.invokevirtual 330, 3) := by decide +kernel
theorem dX12_does_46 : decode cX12_does 46 = .ok (.istore 4, 2) := by decide +kernel
theorem dX12_does_48 : decode cX12_does 48 = .ok (.iload 4, 2) := by decide +kernel
theorem dX12_does_50 : decode cX12_does 50 = .ok (.ifCond .ne 163, 3) := by decide +kernel
theorem dX12_does_53 : decode cX12_does 53 = .ok (.aload_n 0, 1) := by decide +kernel
theorem dX12_does_54 : decode cX12_does 54 = .ok (.iload_n 2, 1) := by decide +kernel
theorem dX12_does_55 : decode cX12_does 55 = .ok (.iconst 1, 1) := by decide +kernel
theorem dX12_does_56 : decode cX12_does 56 = .ok (.iload_n 3, 1) := by decide +kernel
theorem dX12_does_57 : decode cX12_does 57 = .ok (.invokevirtual 310, 3) := by decide +kernel
theorem dX12_does_60 : decode cX12_does 60 = .ok (.goto 153, 3) := by decide +kernel
theorem dX12_does_63 : decode cX12_does 63 = .ok (.aload_n 0, 1) := by decide +kernel
theorem dX12_does_64 : decode cX12_does 64 = .ok (.iload_n 2, 1) := by decide +kernel
theorem dX12_does_65 : decode cX12_does 65 = .ok (.iload_n 3, 1) := by decide +kernel
theorem dX12_does_66 : decode cX12_does 66 = .ok (.invokevirtual 336, 3) := by decide +kernel
theorem dX12_does_69 : decode cX12_does 69 = .ok (.istore 4, 2) := by decide +kernel
theorem dX12_does_71 : decode cX12_does 71 = .ok (.iload 4, 2) := by decide +kernel
theorem dX12_does_73 : decode cX12_does 73 = .ok (.ifCond .ne 140, 3) := by decide +kernel
theorem dX12_does_76 : decode cX12_does 76 = .ok (.aload_n 0, 1) := by decide +kernel
theorem dX12_does_77 : decode cX12_does 77 = .ok (.getfield 33, 3) := by decide +kernel
theorem dX12_does_80 : decode cX12_does 80 = .ok (.bipush 89, 2) := by decide +kernel
theorem dX12_does_82 : decode cX12_does 82 = .ok (.iload_n 2, 1) := by decide +kernel
theorem dX12_does_83 : decode cX12_does 83 = .ok (.iadd, 1) := by decide +kernel
theorem dX12_does_84 : decode cX12_does 84 = .ok (.iload_n 3, 1) := by decide +kernel
theorem dX12_does_85 : decode cX12_does 85 = .ok (.iastore, 1) := by decide +kernel
theorem dX12_does_86 : decode cX12_does 86 = .ok (.goto 127, 3) := by decide +kernel
theorem dX12_does_89 : decode cX12_does 89 = .ok (.aload_n 0, 1) := by decide +kernel
theorem dX12_does_90 : decode cX12_does 90 = .ok (.getfield 33, 3) := by decide +kernel
theorem dX12_does_93 : decode cX12_does 93 = .ok (.bipush 73, 2) := by decide +kernel
theorem dX12_does_95 : decode cX12_does 95 = .ok (.iload_n 2, 1) := by decide +kernel
theorem dX12_does_96 : decode cX12_does 96 = .ok (.iadd, 1) := by decide +kernel
theorem dX12_does_97 : decode cX12_does 97 = .ok (.iaload, 1) := by decide +kernel
theorem dX12_does_98 : decode cX12_does 98 = .ok (.iconst 1, 1) := by decide +kernel
theorem dX12_does_99 : decode cX12_does 99 = .ok (.if_icmp .eq 7, 3) := by decide +kernel
theorem dX12_does_102 : decode cX12_does 102 = .ok (.iconst 1, 1) := by decide +kernel
theorem dX12_does_103 : decode cX12_does 103 = .ok (.goto 4, 3) := by decide +kernel
theorem dX12_does_106 : decode cX12_does 106 = .ok (.iconst 0, 1) := by decide +kernel
theorem dX12_does_107 : decode cX12_does 107 = .ok (.istore 4, 2) := by decide +kernel
theorem dX12_does_109 : decode cX12_does 109 = .ok (.iload 4, 2) := by decide +kernel
theorem dX12_does_111 : decode cX12_does 111 = .ok (.ifCond .ne 102, 3) := by decide +kernel
theorem dX12_does_114 : decode cX12_does 114 = .ok (.aload_n 0, 1) := by decide +kernel
theorem dX12_does_115 : decode cX12_does 115 = .ok (.iload_n 2, 1) := by decide +kernel
theorem dX12_does_116 : decode cX12_does 116 = .ok (.iconst 0, 1) := by decide +kernel
theorem dX12_does_117 : decode cX12_does 117 = .ok (.iconst (-1), 1) := by decide +kernel
theorem dX12_does_118 : decode cX12_does 118 = .ok (.invokevirtual 310, 3) := by decide +kernel
theorem dX12_does_121 : decode cX12_does 121 = .ok (.goto 92, 3) := by decide +kernel
theorem dX12_does_124 : decode cX12_does 124 = .ok (.aload_n 0, 1) := by decide +kernel
theorem dX12_does_125 : decode cX12_does 125 = .ok (.getfield 33, 3) := by decide +kernel
theorem dX12_does_128 : decode cX12_does 128 = .ok (.bipush 113, 2) := by decide +kernel
theorem dX12_does_130 : decode cX12_does 130 = .ok (.iload_n 2, 1) := by decide +kernel
theorem dX12_does_131 : decode cX12_does 131 = .ok (.iadd, 1) := by decide +kernel
theorem dX12_does_132 : decode cX12_does 132 = .ok (.iaload, 1) := by decide +kernel
theorem dX12_does_133 : decode cX12_does 133 = .ok (.iload_n 3, 1) := by decide +kernel
theorem dX12_does_134 : decode cX12_does 134 = .ok (.ishr, 1) := by decide +kernel
theorem dX12_does_135 : decode cX12_does 135 = .ok (.iconst 1, 1) := by decide +kernel
theorem dX12_does_136 : decode cX12_does 136 = .ok (.iand, 1) := by decide +kernel
theorem dX12_does_137 : decode cX12_does 137 = .ok (.istore 4, 2) := by decide +kernel
theorem dX12_does_139 : decode cX12_does 139 = .ok (.iload 4, 2) := by decide +kernel
theorem dX12_does_141 : decode cX12_does 141 = .ok (.ifCond .ne 72, 3) := by decide +kernel
theorem dX12_does_144 : decode cX12_does 144 = .ok (.aload_n 0, 1) := by decide +kernel
theorem dX12_does_145 : decode cX12_does 145 = .ok (.getfield 33, 3) := by decide +kernel
theorem dX12_does_148 : decode cX12_does 148 = .ok (.bipush 113, 2) := by decide +kernel
theorem dX12_does_150 : decode cX12_does 150 = .ok (.iload_n 2, 1) := by decide +kernel
theorem dX12_does_151 : decode cX12_does 151 = .ok (.iload_n 3, 1) := by decide +kernel
theorem dX12_does_152 : decode cX12_does 152 = .ok (.invokestatic 255, 3) := by decide +kernel
theorem dX12_does_155 : decode cX12_does 155 = .ok (.goto 58, 3) := by decide +kernel
theorem dX12_does_158 : decode cX12_does 158 = .ok (.aload_n 0, 1) := by decide +kernel
theorem dX12_does_159 : decode cX12_does 159 = .ok (.iload_n 2, 1) := by decide +kernel
theorem dX12_does_160 : decode cX12_does 160 = .ok (.iload_n 3, 1) := by decide +kernel
theorem dX12_does_161 : decode cX12_does 161 = .ok (.invokevirtual 339, 3) := by decide +kernel
theorem dX12_does_164 : decode cX12_does 164 = .ok (.istore 4, 2) := by decide +kernel
theorem dX12_does_166 : decode cX12_does 166 = .ok (.iload 4, 2) := by decide +kernel
theorem dX12_does_168 : decode cX12_does 168 = .ok (.ifCond .ne 45, 3) := by decide +kernel
theorem dX12_does_171 : decode cX12_does 171 = .ok (.aload_n 0, 1) := by decide +kernel
theorem dX12_does_172 : decode cX12_does 172 = .ok (.iload_n 2, 1) := by decide +kernel
theorem dX12_does_173 : decode cX12_does 173 = .ok (.iload_n 3, 1) := by decide +kernel
theorem dX12_does_174 : decode cX12_does 174 = .ok (.invokevirtual 342, 3) := by decide +kernel
theorem dX12_does_177 : decode cX12_does 177 = .ok (.goto 36, 3) := by decide +kernel
theorem dX12_does_180 : decode cX12_does 180 = .ok (.aload_n 0, 1) := by decide +kernel
theorem dX12_does_181 : decode cX12_does 181 = .ok (.getfield 33, 3) := by decide +kernel
theorem dX12_does_184 : decode cX12_does 184 = .ok (.bipush 69, 2) := by decide +kernel
theorem dX12_does_186 : decode cX12_does 186 = .ok (.iaload, 1) := by decide +kernel
theorem dX12_does_187 : decode cX12_does 187 = .ok (.iload_n 2, 1) := by decide +kernel
theorem dX12_does_188 : decode cX12_does 188 = .ok (.iadd, 1) := by decide +kernel
theorem dX12_does_189 : decode cX12_does 189 = .ok (.sipush 1000, 3) := by decide +kernel
theorem dX12_does_192 : decode cX12_does 192 = .ok (.if_icmp .le 7, 3) := by decide +kernel
theorem dX12_does_195 : decode cX12_does 195 = .ok (.iconst 1, 1) := by decide +kernel
theorem dX12_does_196 : decode cX12_does 196 = .ok (.goto 4, 3) := by decide +kernel
theorem dX12_does_199 : decode cX12_does 199 = .ok (.iconst 0, 1) := by decide +kernel
theorem dX12_does_200 : decode cX12_does 200 = .ok (.istore 4, 2) := by decide +kernel
theorem dX12_does_202 : decode cX12_does 202 = .ok (.iload 4, 2) := by decide +kernel
theorem dX12_does_204 : decode cX12_does 204 = .ok (.ifCond .ne 9, 3) := by decide +kernel
theorem dX12_does_207 : decode cX12_does 207 = .ok (.aload_n 0, 1) := by decide +kernel
theorem dX12_does_208 : decode cX12_does 208 = .ok (.iload_n 2, 1) := by decide +kernel
theorem dX12_does_209 : decode cX12_does 209 = .ok (.invokevirtual 345, 3) := by decide +kernel
theorem dX12_does_212 : decode cX12_does 212 = .ok (.pop, 1) := by decide +kernel
theorem dX12_does_213 : decode cX12_does 213 = .ok (.iload 4, 2) := by decide +kernel
theorem dX12_does_215 : decode cX12_does 215 = .ok (.ifCond .le 13, 3) := by decide +kernel
theorem dX12_does_218 : decode cX12_does 218 = .ok (.iload 4, 2) := by decide +kernel
theorem dX12_does_220 : decode cX12_does 220 = .ok (.bipush 10, 2) := by decide +kernel
theorem dX12_does_222 : decode cX12_does 222 = .ok (.iload_n 1, 1) := by decide +kernel
theorem dX12_does_223 : decode cX12_does 223 = .ok (.imul, 1) := by decide +kernel
theorem dX12_does_224 : decode cX12_does 224 = .ok (.iadd, 1) := by decide +kernel
theorem dX12_does_225 : decode cX12_does 225 = .ok (.goto 4, 3) := by decide +kernel
theorem dX12_does_228 : decode cX12_does 228 = .ok (.iconst 0, 1) := by decide +kernel
theorem dX12_does_229 : decode cX12_does 229 = .ok (.ireturn, 1) := by decide +kernel
theorem dX12_book_0 : decode cX12_book 0 = .ok (.aload_n 0, 1) := by decide +kernel
theorem dX12_book_1 : decode cX12_book 1 = .ok (.iconst 0, 1) := by decide +kernel
theorem dX12_book_2 : decode cX12_book 2 = .ok (.putfield 1, 3) := by decide +kernel
theorem dX12_book_5 : decode cX12_book 5 = .ok (.iload_n 1, 1) := by decide +kernel
theorem dX12_book_6 : decode cX12_book 6 = .ok (.iconst 0, 1) := by decide +kernel
theorem dX12_book_7 : decode cX12_book 7 = .ok (.iconst 1, 1) := by decide +kernel
theorem dX12_book_8 : decode cX12_book 8 = .ok (.invokestatic 193, 3) := by decide +kernel
theorem dX12_book_11 : decode cX12_book 11 = .ok (.ifCond .ne 7, 3) := by decide +kernel
theorem dX12_book_14 : decode cX12_book 14 = .ok (.sipush (-1000), 3) := by decide +kernel
theorem dX12_book_17 : decode cX12_book 17 = .ok (.ireturn, 1) := by decide +kernel
theorem dX12_book_18 : decode cX12_book 18 = .ok (.aload_n 0, 1) := by decide +kernel
theorem dX12_book_19 : decode cX12_book 19 = .ok (.sipush 400, 3) := by decide +kernel
theorem dX12_book_22 : decode cX12_book 22 = .ok (.invokevirtual 259, 3) := by decide +kernel
theorem dX12_book_25 : decode cX12_book 25 = .ok (.aload_n 0, 1) := by decide +kernel
theorem dX12_book_26 : decode cX12_book 26 = .ok (.iconst 0, 1) := by decide +kernel
theorem dX12_book_27 : decode cX12_book 27 = .ok (.putfield 178, 3) := by decide +kernel
theorem dX12_book_30 : decode cX12_book 30 = .ok (.aload_n 0, 1) := by decide +kernel
theorem dX12_book_31 : decode cX12_book 31 = .ok (.iconst 0, 1) := by decide +kernel
theorem dX12_book_32 : decode cX12_book 32 = .ok (.putfield 417, 3) := by decide +kernel
theorem dX12_book_35 : decode cX12_book 35 = .ok (.aload_n 0, 1) := by decide +kernel
theorem dX12_book_36 : decode cX12_book 36 = .ok (.invokevirtual 190, 3) := by decide +kernel
theorem dX12_book_39 : decode cX12_book 39 = .ok (.aload_n 0, 1) := by decide +kernel
theorem dX12_book_40 : decode cX12_book 40 = .ok (.getfield 161, 3) := by decide +kernel
theorem dX12_book_43 : decode cX12_book 43 = .ok (.ifCond .eq 40, 3) := by decide +kernel
theorem dX12_book_46 : decode cX12_book 46 = .ok (.aload_n 0, 1) := by decide +kernel
theorem dX12_book_47 : decode cX12_book 47 = .ok (.invokevirtual 420, 3) := by decide +kernel
theorem dX12_book_50 : decode cX12_book 50 = .ok (.ifCond .eq 12, 3) := by decide +kernel
theorem dX12_book_53 : decode cX12_book 53 = .ok (.aload_n 0, 1) := by decide +kernel
theorem dX12_book_54 : decode cX12_book 54 = .ok (.bipush 59, 2) := by decide +kernel
theorem dX12_book_56 : decode cX12_book 56 = .ok (.invokevirtual 268, 3) := by decide +kernel
theorem dX12_book_59 : decode cX12_book 59 = .ok (.ifCond .ne 11, 3) := by decide +kernel
theorem dX12_book_62 : decode cX12_book 62 = .ok (.bipush (-2), 2) := by decide +kernel
theorem dX12_book_64 : decode cX12_book 64 = .ok (.aload_n 0, 1) := by decide +kernel
theorem dX12_book_65 : decode cX12_book 65 = .ok (.getfield 181, 3) := by decide +kernel
theorem dX12_book_68 : decode cX12_book 68 = .ok (.isub, 1) := by decide +kernel
theorem dX12_book_69 : decode cX12_book 69 = .ok (.ireturn, 1) := by decide +kernel
theorem dX12_book_70 : decode cX12_book 70 = .ok (.aload_n 0, 1) := by decide +kernel
theorem dX12_book_71 : decode cX12_book 71 = .ok (.dup, 1) := by decide +kernel
theorem dX12_book_72 : decode cX12_book 72 = .ok (.getfield 417, 3) := by decide +kernel
theorem dX12_book_75 : decode cX12_book 75 = .ok (.iconst 1, 1) := by decide +kernel
theorem dX12_book_76 : decode cX12_book 76 = .ok (.iadd, 1) := by decide +kernel
theorem dX12_book_77 : decode cX12_book 77 = .ok (.putfield 417, 3) := by decide +kernel
theorem dX12_book_80 : decode cX12_book 80 = .ok (.goto (-41), 3) := by decide +kernel
theorem dX12_book_83 : decode cX12_book 83 = .ok (.aload_n 0, 1) := by decide +kernel
theorem dX12_book_84 : decode cX12_book 84 = .ok (.invokevirtual 379, 3) := by decide +kernel
theorem dX12_book_87 : decode cX12_book 87 = .ok (.iconst 0, 1) := by decide +kernel
theorem dX12_book_88 : decode cX12_book 88 = .ok (.istore_n 2, 1) := by decide +kernel
theorem dX12_book_89 : decode cX12_book 89 = .ok (.iload_n 2, 1) := by decide +kernel
theorem dX12_book_90 : decode cX12_book 90 = .ok (.iconst 4, 1) := by decide +kernel
theorem dX12_book_91 : decode cX12_book 91 = .ok (.if_icmp .ge 16, 3) := by decide +kernel
theorem dX12_book_94 : decode cX12_book 94 = .ok (.aload_n 0, 1) := by decide +kernel
theorem dX12_book_95 : decode cX12_book 95 = .ok (.getfield 72, 3) := by decide +kernel
theorem dX12_book_98 : decode cX12_book 98 = .ok (.iload_n 2, 1) := by decide +kernel
theorem dX12_book_99 : decode cX12_book 99 = .ok (.iconst 0, 1) := by decide +kernel
theorem dX12_book_100 : decode cX12_book 100 = .ok (.iastore, 1) := by decide +kernel
theorem dX12_book_101 : decode cX12_book 101 = .ok (.iinc 2 1, 3) := by decide +kernel
theorem dX12_book_104 : decode cX12_book 104 = .ok (.goto (-15), 3) := by decide +kernel
theorem dX12_book_107 : decode cX12_book 107 = .ok (.iconst (-1), 1) := by decide +kernel
theorem dX12_book_108 : decode cX12_book 108 = .ok (.istore_n 2, 1) := by decide +kernel
theorem dX12_book_109 : decode cX12_book 109 = .ok (.iconst 0, 1) := by decide +kernel
theorem dX12_book_110 : decode cX12_book 110 = .ok (.istore_n 3, 1) := by decide +kernel
theorem dX12_book_111 : decode cX12_book 111 = .ok (.iload_n 3, 1) := by decide +kernel
theorem dX12_book_112 : decode cX12_book 112 = .ok (.aload_n 0, 1) := by decide +kernel
theorem dX12_book_113 : decode cX12_book 113 = .ok (.getfield 417, 3) := by decide +kernel
theorem dX12_book_116 : decode cX12_book 116 = .ok (.if_icmp .ge 75, 3) := by decide +kernel
theorem dX12_book_119 : decode cX12_book 119 = .ok (.iload_n 2, 1) := by decide +kernel
theorem dX12_book_120 : decode cX12_book 120 = .ok (.ifCond .ge 71, 3) := by decide +kernel
theorem dX12_book_123 : decode cX12_book 123 = .ok (.aload_n 0, 1) := by decide +kernel
theorem dX12_book_124 : decode cX12_book 124 = .ok (.getfield 72, 3) := by decide +kernel
theorem dX12_book_127 : decode cX12_book 127 = .ok (.iconst 0, 1) := by decide +kernel
theorem dX12_book_128 : decode cX12_book 128 = .ok (.aload_n 0, 1) := by decide +kernel
theorem dX12_book_129 : decode cX12_book 129 = .ok (.aload_n 0, 1) := by decide +kernel
theorem dX12_book_130 : decode cX12_book 130 = .ok (.getfield 40, 3) := by decide +kernel
theorem dX12_book_133 : decode cX12_book 133 = .ok (.iconst 3, 1) := by decide +kernel
theorem dX12_book_134 : decode cX12_book 134 = .ok (.iload_n 3, 1) := by decide +kernel
theorem dX12_book_135 : decode cX12_book 135 = .ok (.imul, 1) := by decide +kernel
theorem dX12_book_136 : decode cX12_book 136 = .ok (.iaload, 1) := by decide +kernel
theorem dX12_book_137 : decode cX12_book 137 = .ok (.aload_n 0, 1) := by decide +kernel
theorem dX12_book_138 : decode cX12_book 138 = .ok (.getfield 40, 3) := by decide +kernel
theorem dX12_book_141 : decode cX12_book 141 = .ok (.iconst 3, 1) := by decide +kernel
theorem dX12_book_142 : decode cX12_book 142 = .ok (.iload_n 3, 1) := by decide +kernel
theorem dX12_book_143 : decode cX12_book 143 = .ok (.imul, 1) := by decide +kernel
theorem dX12_book_144 : decode cX12_book 144 = .ok (.iconst 1, 1) := by decide +kernel
theorem dX12_book_145 : decode cX12_book 145 = .ok (.iadd, 1) := by decide +kernel
theorem dX12_book_146 : decode cX12_book 146 = .ok (.iaload, 1) := by decide +kernel
theorem dX12_book_147 : decode cX12_book 147 = .ok (.aload_n 0, 1) := by decide +kernel
theorem dX12_book_148 : decode cX12_book 148 = .ok (.getfield 40, 3) := by decide +kernel
theorem dX12_book_151 : decode cX12_book 151 = .ok (.iconst 3, 1) := by decide +kernel
theorem dX12_book_152 : decode cX12_book 152 = .ok (.iload_n 3, 1) := by decide +kernel
theorem dX12_book_153 : decode cX12_book 153 = .ok (.imul, 1) := by decide +kernel
theorem dX12_book_154 : decode cX12_book 154 = .ok (.iconst 2, 1) := by decide +kernel
theorem dX12_book_155 : decode cX12_book 155 = .ok (.iadd, 1) := by decide +kernel
theorem dX12_book_156 : decode cX12_book 156 = .ok (.iaload, 1) := by decide +kernel
theorem dX12_book_157 : decode cX12_book 157 = .ok (.invokevirtual 423, 3) := by decide +kernel
theorem dX12_book_160 : decode cX12_book 160 = .ok (.iastore, 1) := by decide +kernel
theorem dX12_book_161 : decode cX12_book 161 = .ok (.aload_n 0, 1) := by decide +kernel
theorem dX12_book_162 : decode cX12_book 162 = .ok (.getfield 72, 3) := by decide +kernel
theorem dX12_book_165 : decode cX12_book 165 = .ok (.iconst 0, 1) := by decide +kernel
theorem dX12_book_166 : decode cX12_book 166 = .ok (.iaload, 1) := by decide +kernel
theorem dX12_book_167 : decode cX12_book 167 = .ok (.ifCond .le 8, 3) := by decide +kernel
theorem dX12_book_170 : decode cX12_book 170 = .ok (.iload_n 3, 1) := by decide +kernel
theorem dX12_book_171 : decode cX12_book 171 = .ok (.istore_n 2, 1) := by decide +kernel
theorem dX12_book_172 : decode cX12_book 172 = .ok (.goto 13, 3) := by decide +kernel
theorem dX12_book_175 : decode cX12_book 175 = .ok (.aload_n 0, 1) := by decide +kernel
theorem dX12_book_176 : decode cX12_book 176 = .ok (.getfield 72, 3) := by decide +kernel
theorem dX12_book_179 : decode cX12_book 179 = .ok (.iconst 1, 1) := by decide +kernel
theorem dX12_book_180 : decode cX12_book 180 = .ok (.dup2, 1) := by decide +kernel
theorem dX12_book_181 : decode cX12_book 181 = .ok (.iaload, 1) := by decide +kernel
theorem dX12_book_182 : decode cX12_book 182 = .ok (.iconst 1, 1) := by decide +kernel
theorem dX12_book_183 : decode cX12_book 183 = .ok (.iadd, 1) := by decide +kernel
theorem dX12_book_184 : decode cX12_book 184 = .ok (.iastore, 1) := by decide +kernel
theorem dX12_book_185 : decode cX12_book 185 = .ok (.iinc 3 1, 3) := by decide +kernel
theorem dX12_book_188 : decode cX12_book 188 = .ok (.goto (-77), 3) := by decide +kernel
theorem dX12_book_191 : decode cX12_book 191 = .ok (.aload_n 0, 1) := by decide +kernel
theorem dX12_book_192 : decode cX12_book 192 = .ok (.getfield 72, 3) := by decide +kernel
theorem dX12_book_195 : decode cX12_book 195 = .ok (.iconst 2, 1) := by decide +kernel
theorem dX12_book_196 : decode cX12_book 196 = .ok (.aload_n 0, 1) := by decide +kernel
theorem dX12_book_197 : decode cX12_book 197 = .ok (.getfield 33, 3) := by decide +kernel
theorem dX12_book_200 : decode cX12_book 200 = .ok (.bipush 69, 2) := by decide +kernel
theorem dX12_book_202 : decode cX12_book 202 = .ok (.iaload, 1) := by decide +kernel
theorem dX12_book_203 : decode cX12_book 203 = .ok (.iastore, 1) := by decide +kernel
theorem dX12_book_204 : decode cX12_book 204 = .ok (.aload_n 0, 1) := by decide +kernel
theorem dX12_book_205 : decode cX12_book 205 = .ok (.getfield 72, 3) := by decide +kernel
theorem dX12_book_208 : decode cX12_book 208 = .ok (.iconst 3, 1) := by decide +kernel
theorem dX12_book_209 : decode cX12_book 209 = .ok (.aload_n 0, 1) := by decide +kernel
theorem dX12_book_210 : decode cX12_book 210 = .ok (.iconst 2, 1) := by decide +kernel
theorem dX12_book_211 : decode cX12_book 211 = .ok (.invokevirtual 297, 3) := by decide +kernel
theorem dX12_book_214 : decode cX12_book 214 = .ok (.iastore, 1) := by decide +kernel
theorem dX12_book_215 : decode cX12_book 215 = .ok (.aload_n 0, 1) := by decide +kernel
theorem dX12_book_216 : decode cX12_book 216 = .ok (.iconst 1, 1) := by decide +kernel
theorem dX12_book_217 : decode cX12_book 217 = .ok (.putfield 427, 3) := by decide +kernel
theorem dX12_book_220 : decode cX12_book 220 = .ok (.iload_n 1, 1) := by decide +kernel
theorem dX12_book_221 : decode cX12_book 221 = .ok (.iconst 1, 1) := by decide +kernel
theorem dX12_book_222 : decode cX12_book 222 = .ok (.if_icmp .ne 52, 3) := by decide +kernel
theorem dX12_book_225 : decode cX12_book 225 = .ok (.aload_n 0, 1) := by decide +kernel
theorem dX12_book_226 : decode cX12_book 226 = .ok (.getfield 72, 3) := by decide +kernel
theorem dX12_book_229 : decode cX12_book 229 = .ok (.iconst 1, 1) := by decide +kernel
theorem dX12_book_230 : decode cX12_book 230 = .ok (.iaload, 1) := by decide +kernel
theorem dX12_book_231 : decode cX12_book 231 = .ok (.ifCond .le 43, 3) := by decide +kernel
theorem dX12_book_234 : decode cX12_book 234 = .ok (.aload_n 0, 1) := by decide +kernel
theorem dX12_book_235 : decode cX12_book 235 = .ok (.invokevirtual 333, 3) := by decide +kernel
theorem dX12_book_238 : decode cX12_book 238 = .ok (.iconst 0, 1) := by decide +kernel
theorem dX12_book_239 : decode cX12_book 239 = .ok (.istore_n 3, 1) := by decide +kernel
theorem dX12_book_240 : decode cX12_book 240 = .ok (.iload_n 3, 1) := by decide +kernel
theorem dX12_book_241 : decode cX12_book 241 = .ok (.bipush 92, 2) := by decide +kernel
theorem dX12_book_243 : decode cX12_book 243 = .ok (.if_icmp .ge 31, 3) := by decide +kernel
theorem dX12_book_246 : decode cX12_book 246 = .ok (.aload_n 0, 1) := by decide +kernel
theorem dX12_book_247 : decode cX12_book 247 = .ok (.getfield 50, 3) := by decide +kernel
theorem dX12_book_250 : decode cX12_book 250 = .ok (.bipush 92, 2) := by decide +kernel
theorem dX12_book_252 : decode cX12_book 252 = .ok (.aload_n 0, 1) := by decide +kernel
theorem dX12_book_253 : decode cX12_book 253 = .ok (.getfield 271, 3) := by decide +kernel
theorem dX12_book_256 : decode cX12_book 256 = .ok (.iconst 1, 1) := by decide +kernel
theorem dX12_book_257 : decode cX12_book 257 = .ok (.isub, 1) := by decide +kernel
theorem dX12_book_258 : decode cX12_book 258 = .ok (.imul, 1) := by decide +kernel
theorem dX12_book_259 : decode cX12_book 259 = .ok (.iload_n 3, 1) := by decide +kernel
theorem dX12_book_260 : decode cX12_book 260 = .ok (.iadd, 1) := by decide +kernel
theorem dX12_book_261 : decode cX12_book 261 = .ok (.aload_n 0, 1) := by decide +kernel
theorem dX12_book_262 : decode cX12_book 262 = .ok (.getfield 53, 3) := by decide +kernel
theorem dX12_book_265 : decode cX12_book 265 = .ok (.iload_n 3, 1) := by decide +kernel
theorem dX12_book_266 : decode cX12_book 266 = .ok (.iaload, 1) := by decide +kernel
theorem dX12_book_267 : decode cX12_book 267 = .ok (.iastore, 1) := by decide +kernel
theorem dX12_book_268 : decode cX12_book 268 = .ok (.iinc 3 1, 3) := by decide +kernel
theorem dX12_book_271 : decode cX12_book 271 = .ok (.goto (-31), 3) := by decide +kernel
theorem dX12_book_274 : decode cX12_book 274 = .ok (.iload_n 1, 1) := by decide +kernel
theorem dX12_book_275 : decode cX12_book 275 = .ok (.ifCond .ne 7, 3) := by decide +kernel
theorem dX12_book_278 : decode cX12_book 278 = .ok (.aload_n 0, 1) := by decide +kernel
theorem dX12_book_279 : decode cX12_book 279 = .ok (.invokevirtual 382, 3) := by decide +kernel
theorem dX12_book_282 : decode cX12_book 282 = .ok (.iload_n 2, 1) := by decide +kernel
theorem dX12_book_283 : decode cX12_book 283 = .ok (.ireturn, 1) := by decide +kernel
theorem dX12_told_0 : decode cX12_told 0 = .ok (.aload_n 0, 1) := by decide +kernel
theorem dX12_told_1 : decode cX12_told 1 = .ok (.iconst 0, 1) := by decide +kernel
theorem dX12_told_2 : decode cX12_told 2 = .ok (.putfield 1, 3) := by decide +kernel
theorem dX12_told_5 : decode cX12_told 5 = .ok (.aload_n 0, 1) := by decide +kernel
theorem dX12_told_6 : decode cX12_told 6 = .ok (.getfield 427, 3) := by decide +kernel
theorem dX12_told_9 : decode cX12_told 9 = .ok (.ifCond .eq 21, 3) := by decide +kernel
theorem dX12_told_12 : decode cX12_told 12 = .ok (.iload_n 1, 1) := by decide +kernel
theorem dX12_told_13 : decode cX12_told 13 = .ok (.iconst 0, 1) := by decide +kernel
theorem dX12_told_14 : decode cX12_told 14 = .ok (.iconst 3, 1) := by decide +kernel
theorem dX12_told_15 : decode cX12_told 15 = .ok (.invokestatic 193, 3) := by decide +kernel
theorem dX12_told_18 : decode cX12_told 18 = .ok (.ifCond .eq 12, 3) := by decide +kernel
theorem dX12_told_21 : decode cX12_told 21 = .ok (.aload_n 0, 1) := by decide +kernel
theorem dX12_told_22 : decode cX12_told 22 = .ok (.getfield 72, 3) := by decide +kernel
theorem dX12_told_25 : decode cX12_told 25 = .ok (.iload_n 1, 1) := by decide +kernel
theorem dX12_told_26 : decode cX12_told 26 = .ok (.iaload, 1) := by decide +kernel
theorem dX12_told_27 : decode cX12_told 27 = .ok (.goto 4, 3) := by decide +kernel
theorem dX12_told_30 : decode cX12_told 30 = .ok (.iconst (-1), 1) := by decide +kernel
theorem dX12_told_31 : decode cX12_told 31 = .ok (.ireturn, 1) := by decide +kernel
theorem dX12_code_0 : decode cX12_code 0 = .ok (.aload_n 0, 1) := by decide +kernel
theorem dX12_code_1 : decode cX12_code 1 = .ok (.getfield 40, 3) := by decide +kernel
theorem dX12_code_4 : decode cX12_code 4 = .ok (.iconst 3, 1) := by decide +kernel
theorem dX12_code_5 : decode cX12_code 5 = .ok (.aload_n 0, 1) := by decide +kernel
theorem dX12_code_6 : decode cX12_code 6 = .ok (.getfield 430, 3) := by decide +kernel
theorem dX12_code_9 : decode cX12_code 9 = .ok (.imul, 1) := by decide +kernel
theorem dX12_code_10 : decode cX12_code 10 = .ok (.iload_n 1, 1) := by decide +kernel
theorem dX12_code_11 : decode cX12_code 11 = .ok (.iastore, 1) := by decide +kernel
theorem dX12_code_12 : decode cX12_code 12 = .ok (.aload_n 0, 1) := by decide +kernel
theorem dX12_code_13 : decode cX12_code 13 = .ok (.getfield 40, 3) := by decide +kernel
theorem dX12_code_16 : decode cX12_code 16 = .ok (.iconst 3, 1) := by decide +kernel
theorem dX12_code_17 : decode cX12_code 17 = .ok (.aload_n 0, 1) := by decide +kernel
theorem dX12_code_18 : decode cX12_code 18 = .ok (.getfield 430, 3) := by decide +kernel
theorem dX12_code_21 : decode cX12_code 21 = .ok (.imul, 1) := by decide +kernel
theorem dX12_code_22 : decode cX12_code 22 = .ok (.iconst 1, 1) := by decide +kernel
theorem dX12_code_23 : decode cX12_code 23 = .ok (.iadd, 1) := by decide +kernel
theorem dX12_code_24 : decode cX12_code 24 = .ok (.iload_n 2, 1) := by decide +kernel
theorem dX12_code_25 : decode cX12_code 25 = .ok (.iastore, 1) := by decide +kernel
theorem dX12_code_26 : decode cX12_code 26 = .ok (.aload_n 0, 1) := by decide +kernel
theorem dX12_code_27 : decode cX12_code 27 = .ok (.getfield 40, 3) := by decide +kernel
theorem dX12_code_30 : decode cX12_code 30 = .ok (.iconst 3, 1) := by decide +kernel
theorem dX12_code_31 : decode cX12_code 31 = .ok (.aload_n 0, 1) := by decide +kernel
theorem dX12_code_32 : decode cX12_code 32 = .ok (.getfield 430, 3) := by decide +kernel
theorem dX12_code_35 : decode cX12_code 35 = .ok (.imul, 1) := by decide +kernel
theorem dX12_code_36 : decode cX12_code 36 = .ok (.iconst 2, 1) := by decide +kernel
theorem dX12_code_37 : decode cX12_code 37 = .ok (.iadd, 1) := by decide +kernel
theorem dX12_code_38 : decode cX12_code 38 = .ok (.iload_n 3, 1) := by decide +kernel
theorem dX12_code_39 : decode cX12_code 39 = .ok (.iastore, 1) := by decide +kernel
theorem dX12_code_40 : decode cX12_code 40 = .ok (.aload_n 0, 1) := by decide +kernel
theorem dX12_code_41 : decode cX12_code 41 = .ok (.dup, 1) := by decide +kernel
theorem dX12_code_42 : decode cX12_code 42 = .ok (.getfield 430, 3) := by decide +kernel
theorem dX12_code_45 : decode cX12_code 45 = .ok (.iconst 1, 1) := by decide +kernel
theorem dX12_code_46 : decode cX12_code 46 = .ok (.iadd, 1) := by decide +kernel
theorem dX12_code_47 : decode cX12_code 47 = .ok (.putfield 430, 3) := by decide +kernel
theorem dX12_code_50 : decode cX12_code 50 = .ok (.return_, 1) := by decide +kernel
theorem dX12_joins_0 : decode cX12_joins 0 = .ok (.aload_n 0, 1) := by decide +kernel
theorem dX12_joins_1 : decode cX12_joins 1 = .ok (.getfield 433, 3) := by decide +kernel
theorem dX12_joins_4 : decode cX12_joins 4 = .ok (.ifCond .le 69, 3) := by decide +kernel
theorem dX12_joins_7 : decode cX12_joins 7 = .ok (.aload_n 0, 1) := by decide +kernel
theorem dX12_joins_8 : decode cX12_joins 8 = .ok (.getfield 75, 3) := by decide +kernel
theorem dX12_joins_11 : decode cX12_joins 11 = .ok (.aload_n 0, 1) := by decide +kernel
theorem dX12_joins_12 : decode cX12_joins 12 = .ok (.getfield 433, 3) := by decide +kernel
theorem dX12_joins_15 : decode cX12_joins 15 = .ok (.iconst 1, 1) := by decide +kernel
theorem dX12_joins_16 : decode cX12_joins 16 = .ok (.isub, 1) := by decide +kernel
theorem dX12_joins_17 : decode cX12_joins 17 = .ok (.iaload, 1) := by decide +kernel
theorem dX12_joins_18 : decode cX12_joins 18 = .ok (.bipush 21, 2) := by decide +kernel
theorem dX12_joins_20 : decode cX12_joins 20 = .ok (.if_icmp .eq 25, 3) := by decide +kernel
theorem dX12_joins_23 : decode cX12_joins 23 = .ok (.aload_n 0, 1) := by decide +kernel
theorem dX12_joins_24 : decode cX12_joins 24 = .ok (.getfield 75, 3) := by decide +kernel
theorem dX12_joins_27 : decode cX12_joins 27 = .ok (.aload_n 0, 1) := by decide +kernel
theorem dX12_joins_28 : decode cX12_joins 28 = .ok (.getfield 433, 3) := by decide +kernel
theorem dX12_joins_31 : decode cX12_joins 31 = .ok (.iconst 1, 1) := by decide +kernel
theorem dX12_joins_32 : decode cX12_joins 32 = .ok (.isub, 1) := by decide +kernel
theorem dX12_joins_33 : decode cX12_joins 33 = .ok (.iaload, 1) := by decide +kernel
theorem dX12_joins_34 : decode cX12_joins 34 = .ok (.bipush 22, 2) := by decide +kernel
theorem dX12_joins_36 : decode cX12_joins 36 = .ok (.if_icmp .ne 37, 3) := by decide +kernel
theorem dX12_joins_39 : decode cX12_joins 39 = .ok (.iload_n 1, 1) := by decide +kernel
theorem dX12_joins_40 : decode cX12_joins 40 = .ok (.bipush 22, 2) := by decide +kernel
theorem dX12_joins_42 : decode cX12_joins 42 = .ok (.if_icmp .ne 31, 3) := by decide +kernel
theorem dX12_joins_45 : decode cX12_joins 45 = .ok (.aload_n 0, 1) := by decide +kernel
theorem dX12_joins_46 : decode cX12_joins 46 = .ok (.dup, 1) := by decide +kernel
theorem dX12_joins_47 : decode cX12_joins 47 = .ok (.getfield 433, 3) := by decide +kernel
theorem dX12_joins_50 : decode cX12_joins 50 = .ok (.iconst 1, 1) := by decide +kernel
theorem dX12_joins_51 : decode cX12_joins 51 = .ok (.isub, 1) := by decide +kernel
theorem dX12_joins_52 : decode cX12_joins 52 = .ok (.putfield 433, 3) := by decide +kernel
theorem dX12_joins_55 : decode cX12_joins 55 = .ok (.aload_n 0, 1) := by decide +kernel
theorem dX12_joins_56 : decode cX12_joins 56 = .ok (.aload_n 0, 1) := by decide +kernel
theorem dX12_joins_57 : decode cX12_joins 57 = .ok (.getfield 75, 3) := by decide +kernel
theorem dX12_joins_60 : decode cX12_joins 60 = .ok (.aload_n 0, 1) := by decide +kernel
theorem dX12_joins_61 : decode cX12_joins 61 = .ok (.getfield 433, 3) := by decide +kernel
theorem dX12_joins_64 : decode cX12_joins 64 = .ok (.iaload, 1) := by decide +kernel
theorem dX12_joins_65 : decode cX12_joins 65 = .ok (.iconst 0, 1) := by decide +kernel
theorem dX12_joins_66 : decode cX12_joins 66 = .ok (.iconst 0, 1) := by decide +kernel
theorem dX12_joins_67 : decode cX12_joins 67 = .ok (.invokevirtual 436, 3) := by decide +kernel
theorem dX12_joins_70 : decode cX12_joins 70 = .ok (.goto (-70), 3) := by decide +kernel
theorem dX12_joins_73 : decode cX12_joins 73 = .ok (.return_, 1) := by decide +kernel
theorem dX12_nots_0 : decode cX12_nots 0 = .ok (.aload_n 0, 1) := by decide +kernel
theorem dX12_nots_1 : decode cX12_nots 1 = .ok (.getfield 433, 3) := by decide +kernel
theorem dX12_nots_4 : decode cX12_nots 4 = .ok (.ifCond .le 50, 3) := by decide +kernel
theorem dX12_nots_7 : decode cX12_nots 7 = .ok (.aload_n 0, 1) := by decide +kernel
theorem dX12_nots_8 : decode cX12_nots 8 = .ok (.getfield 75, 3) := by decide +kernel
theorem dX12_nots_11 : decode cX12_nots 11 = .ok (.aload_n 0, 1) := by decide +kernel
theorem dX12_nots_12 : decode cX12_nots 12 = .ok (.getfield 433, 3) := by decide +kernel
theorem dX12_nots_15 : decode cX12_nots 15 = .ok (.iconst 1, 1) := by decide +kernel
theorem dX12_nots_16 : decode cX12_nots 16 = .ok (.isub, 1) := by decide +kernel
theorem dX12_nots_17 : decode cX12_nots 17 = .ok (.iaload, 1) := by decide +kernel
theorem dX12_nots_18 : decode cX12_nots 18 = .ok (.bipush 20, 2) := by decide +kernel
theorem dX12_nots_20 : decode cX12_nots 20 = .ok (.if_icmp .ne 34, 3) := by decide +kernel
theorem dX12_nots_23 : decode cX12_nots 23 = .ok (.aload_n 0, 1) := by decide +kernel
theorem dX12_nots_24 : decode cX12_nots 24 = .ok (.dup, 1) := by decide +kernel
theorem dX12_nots_25 : decode cX12_nots 25 = .ok (.getfield 433, 3) := by decide +kernel
theorem dX12_nots_28 : decode cX12_nots 28 = .ok (.iconst 1, 1) := by decide +kernel
theorem dX12_nots_29 : decode cX12_nots 29 = .ok (.isub, 1) := by decide +kernel
theorem dX12_nots_30 : decode cX12_nots 30 = .ok (.putfield 433, 3) := by decide +kernel
theorem dX12_nots_33 : decode cX12_nots 33 = .ok (.aload_n 0, 1) := by decide +kernel
theorem dX12_nots_34 : decode cX12_nots 34 = .ok (.dup, 1) := by decide +kernel
theorem dX12_nots_35 : decode cX12_nots 35 = .ok (.getfield 439, 3) := by decide +kernel
theorem dX12_nots_38 : decode cX12_nots 38 = .ok (.iconst 1, 1) := by decide +kernel
theorem dX12_nots_39 : decode cX12_nots 39 = .ok (.isub, 1) := by decide +kernel
theorem dX12_nots_40 : decode cX12_nots 40 = .ok (.putfield 439, 3) := by decide +kernel
theorem dX12_nots_43 : decode cX12_nots 43 = .ok (.aload_n 0, 1) := by decide +kernel
theorem dX12_nots_44 : decode cX12_nots 44 = .ok (.bipush 20, 2) := by decide +kernel
theorem dX12_nots_46 : decode cX12_nots 46 = .ok (.iconst 0, 1) := by decide +kernel
theorem dX12_nots_47 : decode cX12_nots 47 = .ok (.iconst 0, 1) := by decide +kernel
theorem dX12_nots_48 : decode cX12_nots 48 = .ok (.invokevirtual 436, 3) := by decide +kernel
theorem dX12_nots_51 : decode cX12_nots 51 = .ok (.goto (-51), 3) := by decide +kernel
theorem dX12_nots_54 : decode cX12_nots 54 = .ok (.return_, 1) := by decide +kernel
theorem dX12_leafOf_0 : decode cX12_leafOf 0 = .ok (.aload_n 0, 1) := by decide +kernel
theorem dX12_leafOf_1 : decode cX12_leafOf 1 = .ok (.ldc2_w 132, 3) := by decide +kernel
theorem dX12_leafOf_4 : decode cX12_leafOf 4 = .ok (.invokevirtual 221, 3) := by decide +kernel
theorem dX12_leafOf_7 : decode cX12_leafOf 7 = .ok (.ifCond .eq 7, 3) := by decide +kernel
theorem dX12_leafOf_10 : decode cX12_leafOf 10 = .ok (.iconst 0, 1) := by decide +kernel
theorem dX12_leafOf_11 : decode cX12_leafOf 11 = .ok (.goto 134, 3) := by decide +kernel
theorem dX12_leafOf_14 : decode cX12_leafOf 14 = .ok (.aload_n 0, 1) := by decide +kernel
theorem dX12_leafOf_15 : decode cX12_leafOf 15 = .ok (.ldc2_w 134, 3) := by decide +kernel
theorem dX12_leafOf_18 : decode cX12_leafOf 18 = .ok (.invokevirtual 221, 3) := by decide +kernel
theorem dX12_leafOf_21 : decode cX12_leafOf 21 = .ok (.ifCond .eq 7, 3) := by decide +kernel
theorem dX12_leafOf_24 : decode cX12_leafOf 24 = .ok (.iconst 1, 1) := by decide +kernel
theorem dX12_leafOf_25 : decode cX12_leafOf 25 = .ok (.goto 120, 3) := by decide +kernel
theorem dX12_leafOf_28 : decode cX12_leafOf 28 = .ok (.aload_n 0, 1) := by decide +kernel
theorem dX12_leafOf_29 : decode cX12_leafOf 29 = .ok (.ldc2_w 136, 3) := by decide +kernel
theorem dX12_leafOf_32 : decode cX12_leafOf 32 = .ok (.invokevirtual 221, 3) := by decide +kernel
theorem dX12_leafOf_35 : decode cX12_leafOf 35 = .ok (.ifCond .eq 7, 3) := by decide +kernel
theorem dX12_leafOf_38 : decode cX12_leafOf 38 = .ok (.iconst 2, 1) := by decide +kernel
theorem dX12_leafOf_39 : decode cX12_leafOf 39 = .ok (.goto 106, 3) := by decide +kernel
theorem dX12_leafOf_42 : decode cX12_leafOf 42 = .ok (.aload_n 0, 1) := by decide +kernel
theorem dX12_leafOf_43 : decode cX12_leafOf 43 = .ok (.ldc2_w 114, 3) := by decide +kernel
theorem dX12_leafOf_46 : decode cX12_leafOf 46 = .ok (.invokevirtual 221, 3) := by decide +kernel
theorem dX12_leafOf_49 : decode cX12_leafOf 49 = .ok (.ifCond .eq 7, 3) := by decide +kernel
theorem dX12_leafOf_52 : decode cX12_leafOf 52 = .ok (.iconst 3, 1) := by decide +kernel
theorem dX12_leafOf_53 : decode cX12_leafOf 53 = .ok (.goto 92, 3) := by decide +kernel
theorem dX12_leafOf_56 : decode cX12_leafOf 56 = .ok (.aload_n 0, 1) := by decide +kernel
theorem dX12_leafOf_57 : decode cX12_leafOf 57 = .ok (.ldc2_w 98, 3) := by decide +kernel
theorem dX12_leafOf_60 : decode cX12_leafOf 60 = .ok (.invokevirtual 221, 3) := by decide +kernel
theorem dX12_leafOf_63 : decode cX12_leafOf 63 = .ok (.ifCond .eq 7, 3) := by decide +kernel
theorem dX12_leafOf_66 : decode cX12_leafOf 66 = .ok (.iconst 4, 1) := by decide +kernel
theorem dX12_leafOf_67 : decode cX12_leafOf 67 = .ok (.goto 78, 3) := by decide +kernel
theorem dX12_leafOf_70 : decode cX12_leafOf 70 = .ok (.aload_n 0, 1) := by decide +kernel
theorem dX12_leafOf_71 : decode cX12_leafOf 71 = .ok (.ldc2_w 138, 3) := by decide +kernel
theorem dX12_leafOf_74 : decode cX12_leafOf 74 = .ok (.invokevirtual 221, 3) := by decide +kernel
theorem dX12_leafOf_77 : decode cX12_leafOf 77 = .ok (.ifCond .eq 7, 3) := by decide +kernel
theorem dX12_leafOf_80 : decode cX12_leafOf 80 = .ok (.iconst 5, 1) := by decide +kernel
theorem dX12_leafOf_81 : decode cX12_leafOf 81 = .ok (.goto 64, 3) := by decide +kernel
theorem dX12_leafOf_84 : decode cX12_leafOf 84 = .ok (.aload_n 0, 1) := by decide +kernel
theorem dX12_leafOf_85 : decode cX12_leafOf 85 = .ok (.ldc2_w 140, 3) := by decide +kernel
theorem dX12_leafOf_88 : decode cX12_leafOf 88 = .ok (.invokevirtual 221, 3) := by decide +kernel
theorem dX12_leafOf_91 : decode cX12_leafOf 91 = .ok (.ifCond .eq 8, 3) := by decide +kernel
theorem dX12_leafOf_94 : decode cX12_leafOf 94 = .ok (.bipush 6, 2) := by decide +kernel
theorem dX12_leafOf_96 : decode cX12_leafOf 96 = .ok (.goto 49, 3) := by decide +kernel
theorem dX12_leafOf_99 : decode cX12_leafOf 99 = .ok (.aload_n 0, 1) := by decide +kernel
theorem dX12_leafOf_100 : decode cX12_leafOf 100 = .ok (.ldc2_w 142, 3) := by decide +kernel
theorem dX12_leafOf_103 : decode cX12_leafOf 103 = .ok (.invokevirtual 221, 3) := by decide +kernel
theorem dX12_leafOf_106 : decode cX12_leafOf 106 = .ok (.ifCond .eq 8, 3) := by decide +kernel
theorem dX12_leafOf_109 : decode cX12_leafOf 109 = .ok (.bipush 7, 2) := by decide +kernel
theorem dX12_leafOf_111 : decode cX12_leafOf 111 = .ok (.goto 34, 3) := by decide +kernel
theorem dX12_leafOf_114 : decode cX12_leafOf 114 = .ok (.aload_n 0, 1) := by decide +kernel
theorem dX12_leafOf_115 : decode cX12_leafOf 115 = .ok (.ldc2_w 144, 3) := by decide +kernel
theorem dX12_leafOf_118 : decode cX12_leafOf 118 = .ok (.invokevirtual 221, 3) := by decide +kernel
theorem dX12_leafOf_121 : decode cX12_leafOf 121 = .ok (.ifCond .eq 8, 3) := by decide +kernel
theorem dX12_leafOf_124 : decode cX12_leafOf 124 = .ok (.bipush 8, 2) := by decide +kernel
theorem dX12_leafOf_126 : decode cX12_leafOf 126 = .ok (.goto 19, 3) := by decide +kernel
theorem dX12_leafOf_129 : decode cX12_leafOf 129 = .ok (.aload_n 0, 1) := by decide +kernel
theorem dX12_leafOf_130 : decode cX12_leafOf 130 = .ok (.ldc2_w 146, 3) := by decide +kernel
theorem dX12_leafOf_133 : decode cX12_leafOf 133 = .ok (.invokevirtual 221, 3) := by decide +kernel
theorem dX12_leafOf_136 : decode cX12_leafOf 136 = .ok (.ifCond .eq 8, 3) := by decide +kernel
theorem dX12_leafOf_139 : decode cX12_leafOf 139 = .ok (.bipush 9, 2) := by decide +kernel
theorem dX12_leafOf_141 : decode cX12_leafOf 141 = .ok (.goto 4, 3) := by decide +kernel
theorem dX12_leafOf_144 : decode cX12_leafOf 144 = .ok (.iconst (-1), 1) := by decide +kernel
theorem dX12_leafOf_145 : decode cX12_leafOf 145 = .ok (.ireturn, 1) := by decide +kernel
theorem dX12_operand_0 : decode cX12_operand 0 = .ok (.aload_n 0, 1) := by decide +kernel
theorem dX12_operand_1 : decode cX12_operand 1 = .ok (.ldc2_w 130, 3) := by decide +kernel
theorem dX12_operand_4 : decode cX12_operand 4 = .ok (.invokevirtual 221, 3) := by decide +kernel
theorem dX12_operand_7 : decode cX12_operand 7 = .ok (.istore_n 1, 1) := by decide +kernel
theorem dX12_operand_8 : decode cX12_operand 8 = .ok (.aload_n 0, 1) := by decide +kernel
theorem dX12_operand_9 : decode cX12_operand 9 = .ok (.bipush 40, 2) := by decide +kernel
theorem dX12_operand_11 : decode cX12_operand 11 = .ok (.invokevirtual 184, 3) := by decide +kernel
theorem dX12_operand_14 : decode cX12_operand 14 = .ok (.istore_n 2, 1) := by decide +kernel
theorem dX12_operand_15 : decode cX12_operand 15 = .ok (.aload_n 0, 1) := by decide +kernel
theorem dX12_operand_16 : decode cX12_operand 16 = .ok (.invokevirtual 442, 3) := by decide +kernel
theorem dX12_operand_19 : decode cX12_operand 19 = .ok (.istore_n 3, 1) := by decide +kernel
theorem dX12_operand_20 : decode cX12_operand 20 = .ok (.iload_n 1, 1) := by decide +kernel
theorem dX12_operand_21 : decode cX12_operand 21 = .ok (.ifCond .ne 17, 3) := by decide +kernel
theorem dX12_operand_24 : decode cX12_operand 24 = .ok (.iload_n 2, 1) := by decide +kernel
theorem dX12_operand_25 : decode cX12_operand 25 = .ok (.ifCond .ne 13, 3) := by decide +kernel
theorem dX12_operand_28 : decode cX12_operand 28 = .ok (.iload_n 3, 1) := by decide +kernel
theorem dX12_operand_29 : decode cX12_operand 29 = .ok (.ifCond .ge 9, 3) := by decide +kernel
theorem dX12_operand_32 : decode cX12_operand 32 = .ok (.aload_n 0, 1) := by decide +kernel
theorem dX12_operand_33 : decode cX12_operand 33 = .ok (.iconst 1, 1) := by decide +kernel
theorem dX12_operand_34 : decode cX12_operand 34 = .ok (.invokevirtual 187, 3) := by decide +kernel
theorem dX12_operand_37 : decode cX12_operand 37 = .ok (.ireturn, 1) := by decide +kernel
theorem dX12_operand_38 : decode cX12_operand 38 = .ok (.aload_n 0, 1) := by decide +kernel
theorem dX12_operand_39 : decode cX12_operand 39 = .ok (.getfield 445, 3) := by decide +kernel
theorem dX12_operand_42 : decode cX12_operand 42 = .ok (.bipush 20, 2) := by decide +kernel
theorem dX12_operand_44 : decode cX12_operand 44 = .ok (.if_icmp .eq 12, 3) := by decide +kernel
theorem dX12_operand_47 : decode cX12_operand 47 = .ok (.aload_n 0, 1) := by decide +kernel
theorem dX12_operand_48 : decode cX12_operand 48 = .ok (.getfield 439, 3) := by decide +kernel
theorem dX12_operand_51 : decode cX12_operand 51 = .ok (.bipush 8, 2) := by decide +kernel
theorem dX12_operand_53 : decode cX12_operand 53 = .ok (.if_icmp .le 9, 3) := by decide +kernel
theorem dX12_operand_56 : decode cX12_operand 56 = .ok (.aload_n 0, 1) := by decide +kernel
theorem dX12_operand_57 : decode cX12_operand 57 = .ok (.iconst 4, 1) := by decide +kernel
theorem dX12_operand_58 : decode cX12_operand 58 = .ok (.invokevirtual 187, 3) := by decide +kernel
theorem dX12_operand_61 : decode cX12_operand 61 = .ok (.ireturn, 1) := by decide +kernel
theorem dX12_operand_62 : decode cX12_operand 62 = .ok (.aload_n 0, 1) := by decide +kernel
theorem dX12_operand_63 : decode cX12_operand 63 = .ok (.dup, 1) := by decide +kernel
theorem dX12_operand_64 : decode cX12_operand 64 = .ok (.getfield 445, 3) := by decide +kernel
theorem dX12_operand_67 : decode cX12_operand 67 = .ok (.iconst 1, 1) := by decide +kernel
theorem dX12_operand_68 : decode cX12_operand 68 = .ok (.iadd, 1) := by decide +kernel
theorem dX12_operand_69 : decode cX12_operand 69 = .ok (.putfield 445, 3) := by decide +kernel
theorem dX12_operand_72 : decode cX12_operand 72 = .ok (.aload_n 0, 1) := by decide +kernel
theorem dX12_operand_73 : decode cX12_operand 73 = .ok (.invokevirtual 190, 3) := by decide +kernel
theorem dX12_operand_76 : decode cX12_operand 76 = .ok (.iload_n 1, 1) := by decide +kernel
theorem dX12_operand_77 : decode cX12_operand 77 = .ok (.ifCond .ne 7, 3) := by decide +kernel
theorem dX12_operand_80 : decode cX12_operand 80 = .ok (.iload_n 2, 1) := by decide +kernel
theorem dX12_operand_81 : decode cX12_operand 81 = .ok (.ifCond .eq 45, 3) := by decide +kernel
theorem dX12_operand_84 : decode cX12_operand 84 = .ok (.aload_n 0, 1) := by decide +kernel
theorem dX12_operand_85 : decode cX12_operand 85 = .ok (.getfield 75, 3) := by decide +kernel
theorem dX12_operand_88 : decode cX12_operand 88 = .ok (.aload_n 0, 1) := by decide +kernel
theorem dX12_operand_89 : decode cX12_operand 89 = .ok (.getfield 433, 3) := by decide +kernel
theorem dX12_operand_92 : decode cX12_operand 92 = .ok (.iload_n 1, 1) := by decide +kernel
theorem dX12_operand_93 : decode cX12_operand 93 = .ok (.ifCond .eq 8, 3) := by decide +kernel
theorem dX12_operand_96 : decode cX12_operand 96 = .ok (.bipush 20, 2) := by decide +kernel
theorem dX12_operand_98 : decode cX12_operand 98 = .ok (.goto 5, 3) := by decide +kernel
theorem dX12_operand_101 : decode cX12_operand 101 = .ok (.bipush 23, 2) := by decide +kernel
theorem dX12_operand_103 : decode cX12_operand 103 = .ok (.iastore, 1) := by decide +kernel
theorem dX12_operand_104 : decode cX12_operand 104 = .ok (.aload_n 0, 1) := by decide +kernel
theorem dX12_operand_105 : decode cX12_operand 105 = .ok (.dup, 1) := by decide +kernel
theorem dX12_operand_106 : decode cX12_operand 106 = .ok (.getfield 433, 3) := by decide +kernel
theorem dX12_operand_109 : decode cX12_operand 109 = .ok (.iconst 1, 1) := by decide +kernel
theorem dX12_operand_110 : decode cX12_operand 110 = .ok (.iadd, 1) := by decide +kernel
theorem dX12_operand_111 : decode cX12_operand 111 = .ok (.putfield 433, 3) := by decide +kernel
theorem dX12_operand_114 : decode cX12_operand 114 = .ok (.aload_n 0, 1) := by decide +kernel
theorem dX12_operand_115 : decode cX12_operand 115 = .ok (.dup, 1) := by decide +kernel
theorem dX12_operand_116 : decode cX12_operand 116 = .ok (.getfield 439, 3) := by decide +kernel
theorem dX12_operand_119 : decode cX12_operand 119 = .ok (.iconst 1, 1) := by decide +kernel
theorem dX12_operand_120 : decode cX12_operand 120 = .ok (.iadd, 1) := by decide +kernel
theorem dX12_operand_121 : decode cX12_operand 121 = .ok (.putfield 439, 3) := by decide +kernel
theorem dX12_operand_124 : decode cX12_operand 124 = .ok (.iconst 1, 1) := by decide +kernel
theorem dX12_operand_125 : decode cX12_operand 125 = .ok (.ireturn, 1) := by decide +kernel
theorem dX12_operand_126 : decode cX12_operand 126 = .ok (.aload_n 0, 1) := by decide +kernel
theorem dX12_operand_127 : decode cX12_operand 127 = .ok (.iconst 1, 1) := by decide +kernel
theorem dX12_operand_128 : decode cX12_operand 128 = .ok (.putfield 448, 3) := by decide +kernel
theorem dX12_operand_131 : decode cX12_operand 131 = .ok (.iload_n 3, 1) := by decide +kernel
theorem dX12_operand_132 : decode cX12_operand 132 = .ok (.iconst 4, 1) := by decide +kernel
theorem dX12_operand_133 : decode cX12_operand 133 = .ok (.if_icmp .ge 12, 3) := by decide +kernel
theorem dX12_operand_136 : decode cX12_operand 136 = .ok (.aload_n 0, 1) := by decide +kernel
theorem dX12_operand_137 : decode cX12_operand 137 = .ok (.iload_n 3, 1) := by decide +kernel
theorem dX12_operand_138 : decode cX12_operand 138 = .ok (.iconst 0, 1) := by decide +kernel
theorem dX12_operand_139 : decode cX12_operand 139 = .ok (.iconst 0, 1) := by decide +kernel
theorem dX12_operand_140 : decode cX12_operand 140 = .ok (.invokevirtual 436, 3) := by decide +kernel
theorem dX12_operand_143 : decode cX12_operand 143 = .ok (.iconst 1, 1) := by decide +kernel
theorem dX12_operand_144 : decode cX12_operand 144 = .ok (.ireturn, 1) := by decide +kernel
theorem dX12_operand_145 : decode cX12_operand 145 = .ok (.iload_n 3, 1) := by decide +kernel
theorem dX12_operand_146 : decode cX12_operand 146 = .ok (.bipush 6, 2) := by decide +kernel
theorem dX12_operand_148 : decode cX12_operand 148 = .ok (.if_icmp .ge 59, 3) := by decide +kernel
theorem dX12_operand_151 : decode cX12_operand 151 = .ok (.iload_n 3, 1) := by decide +kernel
theorem dX12_operand_152 : decode cX12_operand 152 = .ok (.iconst 4, 1) := by decide +kernel
theorem dX12_operand_153 : decode cX12_operand 153 = .ok (.if_icmp .ne 18, 3) := by decide +kernel
theorem dX12_operand_156 : decode cX12_operand 156 = .ok (.aload_n 0, 1) := by decide +kernel
theorem dX12_operand_157 : decode cX12_operand 157 = .ok (.bipush 6, 2) := by decide +kernel
theorem dX12_operand_159 : decode cX12_operand 159 = .ok (.aload_n 0, 1) := by decide +kernel
theorem dX12_operand_160 : decode cX12_operand 160 = .ok (.getfield 33, 3) := by decide +kernel
theorem dX12_operand_163 : decode cX12_operand 163 = .ok (.iconst 1, 1) := by decide +kernel
theorem dX12_operand_164 : decode cX12_operand 164 = .ok (.iaload, 1) := by decide +kernel
theorem dX12_operand_165 : decode cX12_operand 165 = .ok (.invokevirtual 212, 3) := by decide +kernel
theorem dX12_operand_168 : decode cX12_operand 168 = .ok (.goto 14, 3) := by decide +kernel
theorem dX12_operand_171 : decode cX12_operand 171 = .ok (.aload_n 0, 1) := by decide +kernel
theorem dX12_operand_172 : decode cX12_operand 172 = .ok (.iconst 0, 1) := by decide +kernel
theorem dX12_operand_173 : decode cX12_operand 173 = .ok (.aload_n 0, 1) := by decide +kernel
theorem dX12_operand_174 : decode cX12_operand 174 = .ok (.getfield 33, 3) := by decide +kernel
theorem dX12_operand_177 : decode cX12_operand 177 = .ok (.iconst 0, 1) := by decide +kernel
theorem dX12_operand_178 : decode cX12_operand 178 = .ok (.iaload, 1) := by decide +kernel
theorem dX12_operand_179 : decode cX12_operand 179 = .ok (.invokevirtual 212, 3) := by decide +kernel
theorem dX12_operand_182 : decode cX12_operand 182 = .ok (.istore 4, 2) := by decide +kernel
theorem dX12_operand_184 : decode cX12_operand 184 = .ok (.iload 4, 2) := by decide +kernel
theorem dX12_operand_186 : decode cX12_operand 186 = .ok (.ifCond .ne 5, 3) := by decide +kernel
theorem dX12_operand_189 : decode cX12_operand 189 = .ok (.iconst 0, 1) := by decide +kernel
theorem dX12_operand_190 : decode cX12_operand 190 = .ok (.ireturn, 1) := by decide +kernel
theorem dX12_operand_191 : decode cX12_operand 191 = .ok (.aload_n 0, 1) := by decide +kernel
theorem dX12_operand_192 : decode cX12_operand 192 = .ok (.iload_n 3, 1) := by decide +kernel
theorem dX12_operand_193 : decode cX12_operand 193 = .ok (.iconst 0, 1) := by decide +kernel
theorem dX12_operand_194 : decode cX12_operand 194 = .ok (.aload_n 0, 1) := by decide +kernel
theorem dX12_operand_195 : decode cX12_operand 195 = .ok (.getfield 197, 3) := by decide +kernel
theorem dX12_operand_198 : decode cX12_operand 198 = .ok (.invokevirtual 436, 3) := by decide +kernel
theorem dX12_operand_201 : decode cX12_operand 201 = .ok (.aload_n 0, 1) := by decide +kernel
theorem dX12_operand_202 : decode cX12_operand 202 = .ok (.invokevirtual 190, 3) := by decide +kernel
theorem dX12_operand_205 : decode cX12_operand 205 = .ok (.iconst 1, 1) := by decide +kernel
theorem dX12_operand_206 : decode cX12_operand 206 = .ok (.ireturn, 1) := by decide +kernel
theorem dX12_operand_207 : decode cX12_operand 207 = .ok (.aload_n 0, 1) := by decide +kernel
theorem dX12_operand_208 : decode cX12_operand 208 = .ok (.getfield 161, 3) := by decide +kernel
theorem dX12_operand_211 : decode cX12_operand 211 = .ok (.iconst 3, 1) := by decide +kernel
theorem dX12_operand_212 : decode cX12_operand 212 = .ok (.if_icmp .ne 21, 3) := by decide +kernel
theorem dX12_operand_215 : decode cX12_operand 215 = .ok (.aload_n 0, 1) := by decide +kernel
theorem dX12_operand_216 : decode cX12_operand 216 = .ok (.getfield 171, 3) := by decide +kernel
theorem dX12_operand_219 : decode cX12_operand 219 = .ok (.bipush 60, 2) := by decide +kernel
theorem dX12_operand_221 : decode cX12_operand 221 = .ok (.if_icmp .lt 12, 3) := by decide +kernel
theorem dX12_operand_224 : decode cX12_operand 224 = .ok (.aload_n 0, 1) := by decide +kernel
theorem dX12_operand_225 : decode cX12_operand 225 = .ok (.getfield 171, 3) := by decide +kernel
theorem dX12_operand_228 : decode cX12_operand 228 = .ok (.bipush 62, 2) := by decide +kernel
theorem dX12_operand_230 : decode cX12_operand 230 = .ok (.if_icmp .le 9, 3) := by decide +kernel
theorem dX12_operand_233 : decode cX12_operand 233 = .ok (.aload_n 0, 1) := by decide +kernel
theorem dX12_operand_234 : decode cX12_operand 234 = .ok (.iconst 1, 1) := by decide +kernel
theorem dX12_operand_235 : decode cX12_operand 235 = .ok (.invokevirtual 187, 3) := by decide +kernel
theorem dX12_operand_238 : decode cX12_operand 238 = .ok (.ireturn, 1) := by decide +kernel
theorem dX12_operand_239 : decode cX12_operand 239 = .ok (.aload_n 0, 1) := by decide +kernel
theorem dX12_operand_240 : decode cX12_operand 240 = .ok (.getfield 171, 3) := by decide +kernel
theorem dX12_operand_243 : decode cX12_operand 243 = .ok (.istore 4, 2) := by decide +kernel
theorem dX12_operand_245 : decode cX12_operand 245 = .ok (.aload_n 0, 1) := by decide +kernel
theorem dX12_operand_246 : decode cX12_operand 246 = .ok (.invokevirtual 190, 3) := by decide +kernel
theorem dX12_operand_249 : decode cX12_operand 249 = .ok (.aload_n 0, 1) := by decide +kernel
theorem dX12_operand_250 : decode cX12_operand 250 = .ok (.getfield 161, 3) := by decide +kernel
theorem dX12_operand_253 : decode cX12_operand 253 = .ok (.iconst 2, 1) := by decide +kernel
theorem dX12_operand_254 : decode cX12_operand 254 = .ok (.if_icmp .eq 9, 3) := by decide +kernel
theorem dX12_operand_257 : decode cX12_operand 257 = .ok (.aload_n 0, 1) := by decide +kernel
theorem dX12_operand_258 : decode cX12_operand 258 = .ok (.iconst 1, 1) := by decide +kernel
theorem dX12_operand_259 : decode cX12_operand 259 = .ok (.invokevirtual 187, 3) := by decide +kernel
theorem dX12_operand_262 : decode cX12_operand 262 = .ok (.ireturn, 1) := by decide +kernel
theorem dX12_operand_263 : decode cX12_operand 263 = .ok (.aload_n 0, 1) := by decide +kernel
theorem dX12_operand_264 : decode cX12_operand 264 = .ok (.iload_n 3, 1) := by decide +kernel
theorem dX12_operand_265 : decode cX12_operand 265 = .ok (.iload 4, 2) := by decide +kernel
theorem dX12_operand_267 : decode cX12_operand 267 = .ok (.aload_n 0, 1) := by decide +kernel
theorem dX12_operand_268 : decode cX12_operand 268 = .ok (.getfield 171, 3) := by decide +kernel
theorem dX12_operand_271 : decode cX12_operand 271 = .ok (.invokevirtual 436, 3) := by decide +kernel
theorem dX12_operand_274 : decode cX12_operand 274 = .ok (.aload_n 0, 1) := by decide +kernel
theorem dX12_operand_275 : decode cX12_operand 275 = .ok (.invokevirtual 190, 3) := by decide +kernel
theorem dX12_operand_278 : decode cX12_operand 278 = .ok (.iconst 1, 1) := by decide +kernel
theorem dX12_operand_279 : decode cX12_operand 279 = .ok (.ireturn, 1) := by decide +kernel
theorem dX12_behind_0 : decode cX12_behind 0 = .ok (.aload_n 0, 1) := by decide +kernel
theorem dX12_behind_1 : decode cX12_behind 1 = .ok (.invokevirtual 451, 3) := by decide +kernel
theorem dX12_behind_4 : decode cX12_behind 4 = .ok (.aload_n 0, 1) := by decide +kernel
theorem dX12_behind_5 : decode cX12_behind 5 = .ok (.ldc2_w 128, 3) := by decide +kernel
theorem dX12_behind_8 : decode cX12_behind 8 = .ok (.invokevirtual 221, 3) := by decide +kernel
theorem dX12_behind_11 : decode cX12_behind 11 = .ok (.ifCond .ne 13, 3) := by decide +kernel
theorem dX12_behind_14 : decode cX12_behind 14 = .ok (.aload_n 0, 1) := by decide +kernel
theorem dX12_behind_15 : decode cX12_behind 15 = .ok (.ldc2_w 126, 3) := by decide +kernel
theorem dX12_behind_18 : decode cX12_behind 18 = .ok (.invokevirtual 221, 3) := by decide +kernel
theorem dX12_behind_21 : decode cX12_behind 21 = .ok (.ifCond .eq 71, 3) := by decide +kernel
theorem dX12_behind_24 : decode cX12_behind 24 = .ok (.aload_n 0, 1) := by decide +kernel
theorem dX12_behind_25 : decode cX12_behind 25 = .ok (.aload_n 0, 1) := by decide +kernel
theorem dX12_behind_26 : decode cX12_behind 26 = .ok (.ldc2_w 128, 3) := by decide +kernel
theorem dX12_behind_29 : decode cX12_behind 29 = .ok (.invokevirtual 221, 3) := by decide +kernel
theorem dX12_behind_32 : decode cX12_behind 32 = .ok (.ifCond .eq 8, 3) := by decide +kernel
theorem dX12_behind_35 : decode cX12_behind 35 = .ok (.bipush 21, 2) := by decide +kernel
theorem dX12_behind_37 : decode cX12_behind 37 = .ok (.goto 5, 3) := by decide +kernel
theorem dX12_behind_40 : decode cX12_behind 40 = .ok (.bipush 22, 2) := by decide +kernel
theorem dX12_behind_42 : decode cX12_behind 42 = .ok (.invokevirtual 454, 3) := by decide +kernel
theorem dX12_behind_45 : decode cX12_behind 45 = .ok (.aload_n 0, 1) := by decide +kernel
theorem dX12_behind_46 : decode cX12_behind 46 = .ok (.getfield 75, 3) := by decide +kernel
theorem dX12_behind_49 : decode cX12_behind 49 = .ok (.aload_n 0, 1) := by decide +kernel
theorem dX12_behind_50 : decode cX12_behind 50 = .ok (.getfield 433, 3) := by decide +kernel
theorem dX12_behind_53 : decode cX12_behind 53 = .ok (.aload_n 0, 1) := by decide +kernel
theorem dX12_behind_54 : decode cX12_behind 54 = .ok (.ldc2_w 128, 3) := by decide +kernel
theorem dX12_behind_57 : decode cX12_behind 57 = .ok (.invokevirtual 221, 3) := by decide +kernel
theorem dX12_behind_60 : decode cX12_behind 60 = .ok (.ifCond .eq 8, 3) := by decide +kernel
theorem dX12_behind_63 : decode cX12_behind 63 = .ok (.bipush 21, 2) := by decide +kernel
theorem dX12_behind_65 : decode cX12_behind 65 = .ok (.goto 5, 3) := by decide +kernel
theorem dX12_behind_68 : decode cX12_behind 68 = .ok (.bipush 22, 2) := by decide +kernel
theorem dX12_behind_70 : decode cX12_behind 70 = .ok (.iastore, 1) := by decide +kernel
theorem dX12_behind_71 : decode cX12_behind 71 = .ok (.aload_n 0, 1) := by decide +kernel
theorem dX12_behind_72 : decode cX12_behind 72 = .ok (.dup, 1) := by decide +kernel
theorem dX12_behind_73 : decode cX12_behind 73 = .ok (.getfield 433, 3) := by decide +kernel
theorem dX12_behind_76 : decode cX12_behind 76 = .ok (.iconst 1, 1) := by decide +kernel
theorem dX12_behind_77 : decode cX12_behind 77 = .ok (.iadd, 1) := by decide +kernel
theorem dX12_behind_78 : decode cX12_behind 78 = .ok (.putfield 433, 3) := by decide +kernel
theorem dX12_behind_81 : decode cX12_behind 81 = .ok (.aload_n 0, 1) := by decide +kernel
theorem dX12_behind_82 : decode cX12_behind 82 = .ok (.iconst 0, 1) := by decide +kernel
theorem dX12_behind_83 : decode cX12_behind 83 = .ok (.putfield 448, 3) := by decide +kernel
theorem dX12_behind_86 : decode cX12_behind 86 = .ok (.aload_n 0, 1) := by decide +kernel
theorem dX12_behind_87 : decode cX12_behind 87 = .ok (.invokevirtual 190, 3) := by decide +kernel
theorem dX12_behind_90 : decode cX12_behind 90 = .ok (.iconst 1, 1) := by decide +kernel
theorem dX12_behind_91 : decode cX12_behind 91 = .ok (.ireturn, 1) := by decide +kernel
theorem dX12_behind_92 : decode cX12_behind 92 = .ok (.aload_n 0, 1) := by decide +kernel
theorem dX12_behind_93 : decode cX12_behind 93 = .ok (.bipush 22, 2) := by decide +kernel
theorem dX12_behind_95 : decode cX12_behind 95 = .ok (.invokevirtual 454, 3) := by decide +kernel
theorem dX12_behind_98 : decode cX12_behind 98 = .ok (.aload_n 0, 1) := by decide +kernel
theorem dX12_behind_99 : decode cX12_behind 99 = .ok (.bipush 41, 2) := by decide +kernel
theorem dX12_behind_101 : decode cX12_behind 101 = .ok (.invokevirtual 184, 3) := by decide +kernel
theorem dX12_behind_104 : decode cX12_behind 104 = .ok (.ifCond .eq 10, 3) := by decide +kernel
theorem dX12_behind_107 : decode cX12_behind 107 = .ok (.aload_n 0, 1) := by decide +kernel
theorem dX12_behind_108 : decode cX12_behind 108 = .ok (.getfield 433, 3) := by decide +kernel
theorem dX12_behind_111 : decode cX12_behind 111 = .ok (.ifCond .ne 9, 3) := by decide +kernel
theorem dX12_behind_114 : decode cX12_behind 114 = .ok (.aload_n 0, 1) := by decide +kernel
theorem dX12_behind_115 : decode cX12_behind 115 = .ok (.iconst 1, 1) := by decide +kernel
theorem dX12_behind_116 : decode cX12_behind 116 = .ok (.invokevirtual 187, 3) := by decide +kernel
theorem dX12_behind_119 : decode cX12_behind 119 = .ok (.ireturn, 1) := by decide +kernel
theorem dX12_behind_120 : decode cX12_behind 120 = .ok (.aload_n 0, 1) := by decide +kernel
theorem dX12_behind_121 : decode cX12_behind 121 = .ok (.dup, 1) := by decide +kernel
theorem dX12_behind_122 : decode cX12_behind 122 = .ok (.getfield 433, 3) := by decide +kernel
theorem dX12_behind_125 : decode cX12_behind 125 = .ok (.iconst 1, 1) := by decide +kernel
theorem dX12_behind_126 : decode cX12_behind 126 = .ok (.isub, 1) := by decide +kernel
theorem dX12_behind_127 : decode cX12_behind 127 = .ok (.putfield 433, 3) := by decide +kernel
theorem dX12_behind_130 : decode cX12_behind 130 = .ok (.aload_n 0, 1) := by decide +kernel
theorem dX12_behind_131 : decode cX12_behind 131 = .ok (.dup, 1) := by decide +kernel
theorem dX12_behind_132 : decode cX12_behind 132 = .ok (.getfield 439, 3) := by decide +kernel
theorem dX12_behind_135 : decode cX12_behind 135 = .ok (.iconst 1, 1) := by decide +kernel
theorem dX12_behind_136 : decode cX12_behind 136 = .ok (.isub, 1) := by decide +kernel
theorem dX12_behind_137 : decode cX12_behind 137 = .ok (.putfield 439, 3) := by decide +kernel
theorem dX12_behind_140 : decode cX12_behind 140 = .ok (.aload_n 0, 1) := by decide +kernel
theorem dX12_behind_141 : decode cX12_behind 141 = .ok (.invokevirtual 190, 3) := by decide +kernel
theorem dX12_behind_144 : decode cX12_behind 144 = .ok (.iconst 1, 1) := by decide +kernel
theorem dX12_behind_145 : decode cX12_behind 145 = .ok (.ireturn, 1) := by decide +kernel
theorem dX12_sentence_0 : decode cX12_sentence 0 = .ok (.aload_n 0, 1) := by decide +kernel
theorem dX12_sentence_1 : decode cX12_sentence 1 = .ok (.iconst 0, 1) := by decide +kernel
theorem dX12_sentence_2 : decode cX12_sentence 2 = .ok (.putfield 1, 3) := by decide +kernel
theorem dX12_sentence_5 : decode cX12_sentence 5 = .ok (.aload_n 0, 1) := by decide +kernel
theorem dX12_sentence_6 : decode cX12_sentence 6 = .ok (.sipush 200, 3) := by decide +kernel
theorem dX12_sentence_9 : decode cX12_sentence 9 = .ok (.invokevirtual 259, 3) := by decide +kernel
theorem dX12_sentence_12 : decode cX12_sentence 12 = .ok (.aload_n 0, 1) := by decide +kernel
theorem dX12_sentence_13 : decode cX12_sentence 13 = .ok (.iconst 0, 1) := by decide +kernel
theorem dX12_sentence_14 : decode cX12_sentence 14 = .ok (.putfield 178, 3) := by decide +kernel
theorem dX12_sentence_17 : decode cX12_sentence 17 = .ok (.aload_n 0, 1) := by decide +kernel
theorem dX12_sentence_18 : decode cX12_sentence 18 = .ok (.iconst 0, 1) := by decide +kernel
theorem dX12_sentence_19 : decode cX12_sentence 19 = .ok (.putfield 430, 3) := by decide +kernel
theorem dX12_sentence_22 : decode cX12_sentence 22 = .ok (.aload_n 0, 1) := by decide +kernel
theorem dX12_sentence_23 : decode cX12_sentence 23 = .ok (.iconst 0, 1) := by decide +kernel
theorem dX12_sentence_24 : decode cX12_sentence 24 = .ok (.putfield 445, 3) := by decide +kernel
theorem dX12_sentence_27 : decode cX12_sentence 27 = .ok (.aload_n 0, 1) := by decide +kernel
theorem dX12_sentence_28 : decode cX12_sentence 28 = .ok (.iconst 0, 1) := by decide +kernel
theorem dX12_sentence_29 : decode cX12_sentence 29 = .ok (.putfield 433, 3) := by decide +kernel
theorem dX12_sentence_32 : decode cX12_sentence 32 = .ok (.aload_n 0, 1) := by decide +kernel
theorem dX12_sentence_33 : decode cX12_sentence 33 = .ok (.iconst 1, 1) := by decide +kernel
theorem dX12_sentence_34 : decode cX12_sentence 34 = .ok (.putfield 439, 3) := by decide +kernel
theorem dX12_sentence_37 : decode cX12_sentence 37 = .ok (.aload_n 0, 1) := by decide +kernel
theorem dX12_sentence_38 : decode cX12_sentence 38 = .ok (.iconst 0, 1) := by decide +kernel
theorem dX12_sentence_39 : decode cX12_sentence 39 = .ok (.putfield 448, 3) := by decide +kernel
theorem dX12_sentence_42 : decode cX12_sentence 42 = .ok (.aload_n 0, 1) := by decide +kernel
theorem dX12_sentence_43 : decode cX12_sentence 43 = .ok (.invokevirtual 190, 3) := by decide +kernel
theorem dX12_sentence_46 : decode cX12_sentence 46 = .ok (.iconst 1, 1) := by decide +kernel
theorem dX12_sentence_47 : decode cX12_sentence 47 = .ok (.istore_n 1, 1) := by decide +kernel
theorem dX12_sentence_48 : decode cX12_sentence 48 = .ok (.iload_n 1, 1) := by decide +kernel
theorem dX12_sentence_49 : decode cX12_sentence 49 = .ok (.ifCond .eq 83, 3) := by decide +kernel
theorem dX12_sentence_52 : decode cX12_sentence 52 = .ok (.aload_n 0, 1) := by decide +kernel
theorem dX12_sentence_53 : decode cX12_sentence 53 = .ok (.getfield 448, 3) := by decide +kernel
theorem dX12_sentence_56 : decode cX12_sentence 56 = .ok (.ifCond .eq 45, 3) := by decide +kernel
theorem dX12_sentence_59 : decode cX12_sentence 59 = .ok (.aload_n 0, 1) := by decide +kernel
theorem dX12_sentence_60 : decode cX12_sentence 60 = .ok (.getfield 161, 3) := by decide +kernel
theorem dX12_sentence_63 : decode cX12_sentence 63 = .ok (.ifCond .ne 38, 3) := by decide +kernel
theorem dX12_sentence_66 : decode cX12_sentence 66 = .ok (.aload_n 0, 1) := by decide +kernel
theorem dX12_sentence_67 : decode cX12_sentence 67 = .ok (.invokevirtual 451, 3) := by decide +kernel
theorem dX12_sentence_70 : decode cX12_sentence 70 = .ok (.aload_n 0, 1) := by decide +kernel
theorem dX12_sentence_71 : decode cX12_sentence 71 = .ok (.bipush 22, 2) := by decide +kernel
theorem dX12_sentence_73 : decode cX12_sentence 73 = .ok (.invokevirtual 454, 3) := by decide +kernel
theorem dX12_sentence_76 : decode cX12_sentence 76 = .ok (.aload_n 0, 1) := by decide +kernel
theorem dX12_sentence_77 : decode cX12_sentence 77 = .ok (.getfield 433, 3) := by decide +kernel
theorem dX12_sentence_80 : decode cX12_sentence 80 = .ok (.ifCond .le 16, 3) := by decide +kernel
theorem dX12_sentence_83 : decode cX12_sentence 83 = .ok (.aload_n 0, 1) := by decide +kernel
theorem dX12_sentence_84 : decode cX12_sentence 84 = .ok (.iconst 1, 1) := by decide +kernel
theorem dX12_sentence_85 : decode cX12_sentence 85 = .ok (.invokevirtual 187, 3) := by decide +kernel
theorem dX12_sentence_88 : decode cX12_sentence 88 = .ok (.pop, 1) := by decide +kernel
theorem dX12_sentence_89 : decode cX12_sentence 89 = .ok (.iconst (-1), 1) := by decide +kernel
theorem dX12_sentence_90 : decode cX12_sentence 90 = .ok (.aload_n 0, 1) := by decide +kernel
theorem dX12_sentence_91 : decode cX12_sentence 91 = .ok (.getfield 181, 3) := by decide +kernel
theorem dX12_sentence_94 : decode cX12_sentence 94 = .ok (.isub, 1) := by decide +kernel
theorem dX12_sentence_95 : decode cX12_sentence 95 = .ok (.ireturn, 1) := by decide +kernel
theorem dX12_sentence_96 : decode cX12_sentence 96 = .ok (.iconst 0, 1) := by decide +kernel
theorem dX12_sentence_97 : decode cX12_sentence 97 = .ok (.istore_n 1, 1) := by decide +kernel
theorem dX12_sentence_98 : decode cX12_sentence 98 = .ok (.goto (-50), 3) := by decide +kernel
theorem dX12_sentence_101 : decode cX12_sentence 101 = .ok (.aload_n 0, 1) := by decide +kernel
theorem dX12_sentence_102 : decode cX12_sentence 102 = .ok (.getfield 448, 3) := by decide +kernel
theorem dX12_sentence_105 : decode cX12_sentence 105 = .ok (.ifCond .eq 13, 3) := by decide +kernel
theorem dX12_sentence_108 : decode cX12_sentence 108 = .ok (.aload_n 0, 1) := by decide +kernel
theorem dX12_sentence_109 : decode cX12_sentence 109 = .ok (.invokevirtual 457, 3) := by decide +kernel
theorem dX12_sentence_112 : decode cX12_sentence 112 = .ok (.ifCond .ne (-64), 3) := by decide +kernel
theorem dX12_sentence_115 : decode cX12_sentence 115 = .ok (.goto 10, 3) := by decide +kernel
theorem dX12_sentence_118 : decode cX12_sentence 118 = .ok (.aload_n 0, 1) := by decide +kernel
theorem dX12_sentence_119 : decode cX12_sentence 119 = .ok (.invokevirtual 460, 3) := by decide +kernel
theorem dX12_sentence_122 : decode cX12_sentence 122 = .ok (.ifCond .ne (-74), 3) := by decide +kernel
theorem dX12_sentence_125 : decode cX12_sentence 125 = .ok (.iconst (-1), 1) := by decide +kernel
theorem dX12_sentence_126 : decode cX12_sentence 126 = .ok (.aload_n 0, 1) := by decide +kernel
theorem dX12_sentence_127 : decode cX12_sentence 127 = .ok (.getfield 181, 3) := by decide +kernel
theorem dX12_sentence_130 : decode cX12_sentence 130 = .ok (.isub, 1) := by decide +kernel
theorem dX12_sentence_131 : decode cX12_sentence 131 = .ok (.ireturn, 1) := by decide +kernel
theorem dX12_sentence_132 : decode cX12_sentence 132 = .ok (.aload_n 0, 1) := by decide +kernel
theorem dX12_sentence_133 : decode cX12_sentence 133 = .ok (.getfield 33, 3) := by decide +kernel
theorem dX12_sentence_136 : decode cX12_sentence 136 = .ok (.sipush 161, 3) := by decide +kernel
theorem dX12_sentence_139 : decode cX12_sentence 139 = .ok (.aload_n 0, 1) := by decide +kernel
theorem dX12_sentence_140 : decode cX12_sentence 140 = .ok (.getfield 430, 3) := by decide +kernel
theorem dX12_sentence_143 : decode cX12_sentence 143 = .ok (.iastore, 1) := by decide +kernel
theorem dX12_sentence_144 : decode cX12_sentence 144 = .ok (.iconst 0, 1) := by decide +kernel
theorem dX12_sentence_145 : decode cX12_sentence 145 = .ok (.istore_n 2, 1) := by decide +kernel
theorem dX12_sentence_146 : decode cX12_sentence 146 = .ok (.iload_n 2, 1) := by decide +kernel
theorem dX12_sentence_147 : decode cX12_sentence 147 = .ok (.iconst 3, 1) := by decide +kernel
theorem dX12_sentence_148 : decode cX12_sentence 148 = .ok (.aload_n 0, 1) := by decide +kernel
theorem dX12_sentence_149 : decode cX12_sentence 149 = .ok (.getfield 430, 3) := by decide +kernel
theorem dX12_sentence_152 : decode cX12_sentence 152 = .ok (.imul, 1) := by decide +kernel
theorem dX12_sentence_153 : decode cX12_sentence 153 = .ok (.if_icmp .ge 25, 3) := by decide +kernel
theorem dX12_sentence_156 : decode cX12_sentence 156 = .ok (.aload_n 0, 1) := by decide +kernel
theorem dX12_sentence_157 : decode cX12_sentence 157 = .ok (.getfield 33, 3) := by decide +kernel
theorem dX12_sentence_160 : decode cX12_sentence 160 = .ok (.sipush 162, 3) := by decide +kernel
theorem dX12_sentence_163 : decode cX12_sentence 163 = .ok (.iload_n 2, 1) := by decide +kernel
theorem dX12_sentence_164 : decode cX12_sentence 164 = .ok (.iadd, 1) := by decide +kernel
theorem dX12_sentence_165 : decode cX12_sentence 165 = .ok (.aload_n 0, 1) := by decide +kernel
theorem dX12_sentence_166 : decode cX12_sentence 166 = .ok (.getfield 40, 3) := by decide +kernel
theorem dX12_sentence_169 : decode cX12_sentence 169 = .ok (.iload_n 2, 1) := by decide +kernel
theorem dX12_sentence_170 : decode cX12_sentence 170 = .ok (.iaload, 1) := by decide +kernel
theorem dX12_sentence_171 : decode cX12_sentence 171 = .ok (.iastore, 1) := by decide +kernel
theorem dX12_sentence_172 : decode cX12_sentence 172 = .ok (.iinc 2 1, 3) := by decide +kernel
theorem dX12_sentence_175 : decode cX12_sentence 175 = .ok (.goto (-29), 3) := by decide +kernel
theorem dX12_sentence_178 : decode cX12_sentence 178 = .ok (.aload_n 0, 1) := by decide +kernel
theorem dX12_sentence_179 : decode cX12_sentence 179 = .ok (.getfield 445, 3) := by decide +kernel
theorem dX12_sentence_182 : decode cX12_sentence 182 = .ok (.ireturn, 1) := by decide +kernel
theorem dX12_isLeaf_0 : decode cX12_isLeaf 0 = .ok (.iload_n 2, 1) := by decide +kernel
theorem dX12_isLeaf_1 : decode cX12_isLeaf 1 = .ok (.iconst 3, 1) := by decide +kernel
theorem dX12_isLeaf_2 : decode cX12_isLeaf 2 = .ok (.if_icmp .ge 22, 3) := by decide +kernel
theorem dX12_isLeaf_5 : decode cX12_isLeaf 5 = .ok (.aload_n 0, 1) := by decide +kernel
theorem dX12_isLeaf_6 : decode cX12_isLeaf 6 = .ok (.getfield 33, 3) := by decide +kernel
theorem dX12_isLeaf_9 : decode cX12_isLeaf 9 = .ok (.bipush 73, 2) := by decide +kernel
theorem dX12_isLeaf_11 : decode cX12_isLeaf 11 = .ok (.iload_n 1, 1) := by decide +kernel
theorem dX12_isLeaf_12 : decode cX12_isLeaf 12 = .ok (.iadd, 1) := by decide +kernel
theorem dX12_isLeaf_13 : decode cX12_isLeaf 13 = .ok (.iaload, 1) := by decide +kernel
theorem dX12_isLeaf_14 : decode cX12_isLeaf 14 = .ok (.iload_n 2, 1) := by decide +kernel
theorem dX12_isLeaf_15 : decode cX12_isLeaf 15 = .ok (.if_icmp .ne 7, 3) := by decide +kernel
theorem dX12_isLeaf_18 : decode cX12_isLeaf 18 = .ok (.iconst 1, 1) := by decide +kernel
theorem dX12_isLeaf_19 : decode cX12_isLeaf 19 = .ok (.goto 4, 3) := by decide +kernel
theorem dX12_isLeaf_22 : decode cX12_isLeaf 22 = .ok (.iconst 0, 1) := by decide +kernel
theorem dX12_isLeaf_23 : decode cX12_isLeaf 23 = .ok (.ireturn, 1) := by decide +kernel
theorem dX12_isLeaf_24 : decode cX12_isLeaf 24 = .ok (.iload_n 2, 1) := by decide +kernel
theorem dX12_isLeaf_25 : decode cX12_isLeaf 25 = .ok (.iconst 3, 1) := by decide +kernel
theorem dX12_isLeaf_26 : decode cX12_isLeaf 26 = .ok (.if_icmp .ne 15, 3) := by decide +kernel
theorem dX12_isLeaf_29 : decode cX12_isLeaf 29 = .ok (.aload_n 0, 1) := by decide +kernel
theorem dX12_isLeaf_30 : decode cX12_isLeaf 30 = .ok (.getfield 33, 3) := by decide +kernel
theorem dX12_isLeaf_33 : decode cX12_isLeaf 33 = .ok (.bipush 35, 2) := by decide +kernel
theorem dX12_isLeaf_35 : decode cX12_isLeaf 35 = .ok (.iaload, 1) := by decide +kernel
theorem dX12_isLeaf_36 : decode cX12_isLeaf 36 = .ok (.iload_n 1, 1) := by decide +kernel
theorem dX12_isLeaf_37 : decode cX12_isLeaf 37 = .ok (.invokestatic 218, 3) := by decide +kernel
theorem dX12_isLeaf_40 : decode cX12_isLeaf 40 = .ok (.ireturn, 1) := by decide +kernel
theorem dX12_isLeaf_41 : decode cX12_isLeaf 41 = .ok (.iload_n 2, 1) := by decide +kernel
theorem dX12_isLeaf_42 : decode cX12_isLeaf 42 = .ok (.iconst 4, 1) := by decide +kernel
theorem dX12_isLeaf_43 : decode cX12_isLeaf 43 = .ok (.if_icmp .ne 18, 3) := by decide +kernel
theorem dX12_isLeaf_46 : decode cX12_isLeaf 46 = .ok (.aload_n 0, 1) := by decide +kernel
theorem dX12_isLeaf_47 : decode cX12_isLeaf 47 = .ok (.getfield 33, 3) := by decide +kernel
theorem dX12_isLeaf_50 : decode cX12_isLeaf 50 = .ok (.bipush 113, 2) := by decide +kernel
theorem dX12_isLeaf_52 : decode cX12_isLeaf 52 = .ok (.iload_n 1, 1) := by decide +kernel
theorem dX12_isLeaf_53 : decode cX12_isLeaf 53 = .ok (.iadd, 1) := by decide +kernel
theorem dX12_isLeaf_54 : decode cX12_isLeaf 54 = .ok (.iaload, 1) := by decide +kernel
theorem dX12_isLeaf_55 : decode cX12_isLeaf 55 = .ok (.iload 4, 2) := by decide +kernel
theorem dX12_isLeaf_57 : decode cX12_isLeaf 57 = .ok (.invokestatic 218, 3) := by decide +kernel
theorem dX12_isLeaf_60 : decode cX12_isLeaf 60 = .ok (.ireturn, 1) := by decide +kernel
theorem dX12_isLeaf_61 : decode cX12_isLeaf 61 = .ok (.iload_n 2, 1) := by decide +kernel
theorem dX12_isLeaf_62 : decode cX12_isLeaf 62 = .ok (.iconst 5, 1) := by decide +kernel
theorem dX12_isLeaf_63 : decode cX12_isLeaf 63 = .ok (.if_icmp .ne 25, 3) := by decide +kernel
theorem dX12_isLeaf_66 : decode cX12_isLeaf 66 = .ok (.aload_n 0, 1) := by decide +kernel
theorem dX12_isLeaf_67 : decode cX12_isLeaf 67 = .ok (.getfield 33, 3) := by decide +kernel
theorem dX12_isLeaf_70 : decode cX12_isLeaf 70 = .ok (.bipush 11, 2) := by decide +kernel
theorem dX12_isLeaf_72 : decode cX12_isLeaf 72 = .ok (.iload_n 1, 1) := by decide +kernel
theorem dX12_isLeaf_73 : decode cX12_isLeaf 73 = .ok (.iadd, 1) := by decide +kernel
theorem dX12_isLeaf_74 : decode cX12_isLeaf 74 = .ok (.iaload, 1) := by decide +kernel
theorem dX12_isLeaf_75 : decode cX12_isLeaf 75 = .ok (.iload 4, 2) := by decide +kernel
theorem dX12_isLeaf_77 : decode cX12_isLeaf 77 = .ok (.iconst 1, 1) := by decide +kernel
theorem dX12_isLeaf_78 : decode cX12_isLeaf 78 = .ok (.iadd, 1) := by decide +kernel
theorem dX12_isLeaf_79 : decode cX12_isLeaf 79 = .ok (.if_icmp .ne 7, 3) := by decide +kernel
theorem dX12_isLeaf_82 : decode cX12_isLeaf 82 = .ok (.iconst 1, 1) := by decide +kernel
theorem dX12_isLeaf_83 : decode cX12_isLeaf 83 = .ok (.goto 4, 3) := by decide +kernel
theorem dX12_isLeaf_86 : decode cX12_isLeaf 86 = .ok (.iconst 0, 1) := by decide +kernel
theorem dX12_isLeaf_87 : decode cX12_isLeaf 87 = .ok (.ireturn, 1) := by decide +kernel
theorem dX12_isLeaf_88 : decode cX12_isLeaf 88 = .ok (.iload_n 2, 1) := by decide +kernel
theorem dX12_isLeaf_89 : decode cX12_isLeaf 89 = .ok (.bipush 6, 2) := by decide +kernel
theorem dX12_isLeaf_91 : decode cX12_isLeaf 91 = .ok (.if_icmp .ne 15, 3) := by decide +kernel
theorem dX12_isLeaf_94 : decode cX12_isLeaf 94 = .ok (.aload_n 0, 1) := by decide +kernel
theorem dX12_isLeaf_95 : decode cX12_isLeaf 95 = .ok (.getfield 33, 3) := by decide +kernel
theorem dX12_isLeaf_98 : decode cX12_isLeaf 98 = .ok (.bipush 81, 2) := by decide +kernel
theorem dX12_isLeaf_100 : decode cX12_isLeaf 100 = .ok (.iload_n 1, 1) := by decide +kernel
theorem dX12_isLeaf_101 : decode cX12_isLeaf 101 = .ok (.iadd, 1) := by decide +kernel
theorem dX12_isLeaf_102 : decode cX12_isLeaf 102 = .ok (.iaload, 1) := by decide +kernel
theorem dX12_isLeaf_103 : decode cX12_isLeaf 103 = .ok (.goto 43, 3) := by decide +kernel
theorem dX12_isLeaf_106 : decode cX12_isLeaf 106 = .ok (.iload_n 2, 1) := by decide +kernel
theorem dX12_isLeaf_107 : decode cX12_isLeaf 107 = .ok (.bipush 7, 2) := by decide +kernel
theorem dX12_isLeaf_109 : decode cX12_isLeaf 109 = .ok (.if_icmp .ne 18, 3) := by decide +kernel
theorem dX12_isLeaf_112 : decode cX12_isLeaf 112 = .ok (.aload_n 0, 1) := by decide +kernel
theorem dX12_isLeaf_113 : decode cX12_isLeaf 113 = .ok (.getfield 33, 3) := by decide +kernel
theorem dX12_isLeaf_116 : decode cX12_isLeaf 116 = .ok (.bipush 113, 2) := by decide +kernel
theorem dX12_isLeaf_118 : decode cX12_isLeaf 118 = .ok (.iload_n 1, 1) := by decide +kernel
theorem dX12_isLeaf_119 : decode cX12_isLeaf 119 = .ok (.iadd, 1) := by decide +kernel
theorem dX12_isLeaf_120 : decode cX12_isLeaf 120 = .ok (.iaload, 1) := by decide +kernel
theorem dX12_isLeaf_121 : decode cX12_isLeaf 121 = .ok (.invokestatic 348, 3) := by decide +kernel
theorem dX12_isLeaf_124 : decode cX12_isLeaf 124 = .ok (.goto 22, 3) := by decide +kernel
theorem dX12_isLeaf_127 : decode cX12_isLeaf 127 = .ok (.iload_n 2, 1) := by decide +kernel
theorem dX12_isLeaf_128 : decode cX12_isLeaf 128 = .ok (.bipush 8, 2) := by decide +kernel
theorem dX12_isLeaf_130 : decode cX12_isLeaf 130 = .ok (.if_icmp .ne 15, 3) := by decide +kernel
theorem dX12_isLeaf_133 : decode cX12_isLeaf 133 = .ok (.aload_n 0, 1) := by decide +kernel
theorem dX12_isLeaf_134 : decode cX12_isLeaf 134 = .ok (.getfield 33, 3) := by decide +kernel
theorem dX12_isLeaf_137 : decode cX12_isLeaf 137 = .ok (.bipush 121, 2) := by decide +kernel
theorem dX12_isLeaf_139 : decode cX12_isLeaf 139 = .ok (.iload_n 1, 1) := by decide +kernel
theorem dX12_isLeaf_140 : decode cX12_isLeaf 140 = .ok (.iadd, 1) := by decide +kernel
theorem dX12_isLeaf_141 : decode cX12_isLeaf 141 = .ok (.iaload, 1) := by decide +kernel
theorem dX12_isLeaf_142 : decode cX12_isLeaf 142 = .ok (.goto 4, 3) := by decide +kernel
theorem dX12_isLeaf_145 : decode cX12_isLeaf 145 = .ok (.iload_n 1, 1) := by decide +kernel
theorem dX12_isLeaf_146 : decode cX12_isLeaf 146 = .ok (.istore 5, 2) := by decide +kernel
theorem dX12_isLeaf_148 : decode cX12_isLeaf 148 = .ok (.iload_n 3, 1) := by decide +kernel
theorem dX12_isLeaf_149 : decode cX12_isLeaf 149 = .ok (.bipush 60, 2) := by decide +kernel
theorem dX12_isLeaf_151 : decode cX12_isLeaf 151 = .ok (.if_icmp .ne 18, 3) := by decide +kernel
theorem dX12_isLeaf_154 : decode cX12_isLeaf 154 = .ok (.iload 5, 2) := by decide +kernel
theorem dX12_isLeaf_156 : decode cX12_isLeaf 156 = .ok (.iload 4, 2) := by decide +kernel
theorem dX12_isLeaf_158 : decode cX12_isLeaf 158 = .ok (.if_icmp .ge 7, 3) := by decide +kernel
theorem dX12_isLeaf_161 : decode cX12_isLeaf 161 = .ok (.iconst 1, 1) := by decide +kernel
theorem dX12_isLeaf_162 : decode cX12_isLeaf 162 = .ok (.goto 40, 3) := by decide +kernel
theorem dX12_isLeaf_165 : decode cX12_isLeaf 165 = .ok (.iconst 0, 1) := by decide +kernel
theorem dX12_isLeaf_166 : decode cX12_isLeaf 166 = .ok (.goto 36, 3) := by decide +kernel
theorem dX12_isLeaf_169 : decode cX12_isLeaf 169 = .ok (.iload_n 3, 1) := by decide +kernel
theorem dX12_isLeaf_170 : decode cX12_isLeaf 170 = .ok (.bipush 61, 2) := by decide +kernel
theorem dX12_isLeaf_172 : decode cX12_isLeaf 172 = .ok (.if_icmp .ne 18, 3) := by decide +kernel
theorem dX12_isLeaf_175 : decode cX12_isLeaf 175 = .ok (.iload 5, 2) := by decide +kernel
theorem dX12_isLeaf_177 : decode cX12_isLeaf 177 = .ok (.iload 4, 2) := by decide +kernel
theorem dX12_isLeaf_179 : decode cX12_isLeaf 179 = .ok (.if_icmp .ne 7, 3) := by decide +kernel
theorem dX12_isLeaf_182 : decode cX12_isLeaf 182 = .ok (.iconst 1, 1) := by decide +kernel
theorem dX12_isLeaf_183 : decode cX12_isLeaf 183 = .ok (.goto 19, 3) := by decide +kernel
theorem dX12_isLeaf_186 : decode cX12_isLeaf 186 = .ok (.iconst 0, 1) := by decide +kernel
theorem dX12_isLeaf_187 : decode cX12_isLeaf 187 = .ok (.goto 15, 3) := by decide +kernel
theorem dX12_isLeaf_190 : decode cX12_isLeaf 190 = .ok (.iload 5, 2) := by decide +kernel
theorem dX12_isLeaf_192 : decode cX12_isLeaf 192 = .ok (.iload 4, 2) := by decide +kernel
theorem dX12_isLeaf_194 : decode cX12_isLeaf 194 = .ok (.if_icmp .le 7, 3) := by decide +kernel
theorem dX12_isLeaf_197 : decode cX12_isLeaf 197 = .ok (.iconst 1, 1) := by decide +kernel
theorem dX12_isLeaf_198 : decode cX12_isLeaf 198 = .ok (.goto 4, 3) := by decide +kernel
theorem dX12_isLeaf_201 : decode cX12_isLeaf 201 = .ok (.iconst 0, 1) := by decide +kernel
theorem dX12_isLeaf_202 : decode cX12_isLeaf 202 = .ok (.ireturn, 1) := by decide +kernel
theorem dX12_isSaid_0 : decode cX12_isSaid 0 = .ok (.iconst 0, 1) := by decide +kernel
theorem dX12_isSaid_1 : decode cX12_isSaid 1 = .ok (.istore_n 2, 1) := by decide +kernel
theorem dX12_isSaid_2 : decode cX12_isSaid 2 = .ok (.iconst 0, 1) := by decide +kernel
theorem dX12_isSaid_3 : decode cX12_isSaid 3 = .ok (.istore_n 3, 1) := by decide +kernel
theorem dX12_isSaid_4 : decode cX12_isSaid 4 = .ok (.iload_n 3, 1) := by decide +kernel
theorem dX12_isSaid_5 : decode cX12_isSaid 5 = .ok (.aload_n 0, 1) := by decide +kernel
theorem dX12_isSaid_6 : decode cX12_isSaid 6 = .ok (.getfield 33, 3) := by decide +kernel
theorem dX12_isSaid_9 : decode cX12_isSaid 9 = .ok (.sipush 161, 3) := by decide +kernel
theorem dX12_isSaid_12 : decode cX12_isSaid 12 = .ok (.iaload, 1) := by decide +kernel
theorem dX12_isSaid_13 : decode cX12_isSaid 13 = .ok (.if_icmp .ge 199, 3) := by decide +kernel
theorem dX12_isSaid_16 : decode cX12_isSaid 16 = .ok (.sipush 162, 3) := by decide +kernel
theorem dX12_isSaid_19 : decode cX12_isSaid 19 = .ok (.iconst 3, 1) := by decide +kernel
theorem dX12_isSaid_20 : decode cX12_isSaid 20 = .ok (.iload_n 3, 1) := by decide +kernel
theorem dX12_isSaid_21 : decode cX12_isSaid 21 = .ok (.imul, 1) := by decide +kernel
theorem dX12_isSaid_22 : decode cX12_isSaid 22 = .ok (.iadd, 1) := by decide +kernel
theorem dX12_isSaid_23 : decode cX12_isSaid 23 = .ok (.istore 4, 2) := by decide +kernel
theorem dX12_isSaid_25 : decode cX12_isSaid 25 = .ok (.aload_n 0, 1) := by decide +kernel
theorem dX12_isSaid_26 : decode cX12_isSaid 26 = .ok (.getfield 33, 3) := by decide +kernel
theorem dX12_isSaid_29 : decode cX12_isSaid 29 = .ok (.iload 4, 2) := by decide +kernel
theorem dX12_isSaid_31 : decode cX12_isSaid 31 = .ok (.iaload, 1) := by decide +kernel
theorem dX12_isSaid_32 : decode cX12_isSaid 32 = .ok (.bipush 20, 2) := by decide +kernel
theorem dX12_isSaid_34 : decode cX12_isSaid 34 = .ok (.if_icmp .ne 30, 3) := by decide +kernel
theorem dX12_isSaid_37 : decode cX12_isSaid 37 = .ok (.aload_n 0, 1) := by decide +kernel
theorem dX12_isSaid_38 : decode cX12_isSaid 38 = .ok (.getfield 78, 3) := by decide +kernel
theorem dX12_isSaid_41 : decode cX12_isSaid 41 = .ok (.iload_n 2, 1) := by decide +kernel
theorem dX12_isSaid_42 : decode cX12_isSaid 42 = .ok (.iconst 1, 1) := by decide +kernel
theorem dX12_isSaid_43 : decode cX12_isSaid 43 = .ok (.isub, 1) := by decide +kernel
theorem dX12_isSaid_44 : decode cX12_isSaid 44 = .ok (.aload_n 0, 1) := by decide +kernel
theorem dX12_isSaid_45 : decode cX12_isSaid 45 = .ok (.getfield 78, 3) := by decide +kernel
theorem dX12_isSaid_48 : decode cX12_isSaid 48 = .ok (.iload_n 2, 1) := by decide +kernel
theorem dX12_isSaid_49 : decode cX12_isSaid 49 = .ok (.iconst 1, 1) := by decide +kernel
theorem dX12_isSaid_50 : decode cX12_isSaid 50 = .ok (.isub, 1) := by decide +kernel
theorem dX12_isSaid_51 : decode cX12_isSaid 51 = .ok (.baload, 1) := by decide +kernel
theorem dX12_isSaid_52 : decode cX12_isSaid 52 = .ok (.ifCond .ne 7, 3) := by decide +kernel
theorem dX12_isSaid_55 : decode cX12_isSaid 55 = .ok (.iconst 1, 1) := by decide +kernel
theorem dX12_isSaid_56 : decode cX12_isSaid 56 = .ok (.goto 4, 3) := by decide +kernel
theorem dX12_isSaid_59 : decode cX12_isSaid 59 = .ok (.iconst 0, 1) := by decide +kernel
theorem dX12_isSaid_60 : decode cX12_isSaid 60 = .ok (.bastore, 1) := by decide +kernel
theorem dX12_isSaid_61 : decode cX12_isSaid 61 = .ok (.goto 145, 3) := by decide +kernel
theorem dX12_isSaid_64 : decode cX12_isSaid 64 = .ok (.aload_n 0, 1) := by decide +kernel
theorem dX12_isSaid_65 : decode cX12_isSaid 65 = .ok (.getfield 33, 3) := by decide +kernel
theorem dX12_isSaid_68 : decode cX12_isSaid 68 = .ok (.iload 4, 2) := by decide +kernel
theorem dX12_isSaid_70 : decode cX12_isSaid 70 = .ok (.iaload, 1) := by decide +kernel
theorem dX12_isSaid_71 : decode cX12_isSaid 71 = .ok (.bipush 21, 2) := by decide +kernel
theorem dX12_isSaid_73 : decode cX12_isSaid 73 = .ok (.if_icmp .eq 15, 3) := by decide +kernel
theorem dX12_isSaid_76 : decode cX12_isSaid 76 = .ok (.aload_n 0, 1) := by decide +kernel
theorem dX12_isSaid_77 : decode cX12_isSaid 77 = .ok (.getfield 33, 3) := by decide +kernel
theorem dX12_isSaid_80 : decode cX12_isSaid 80 = .ok (.iload 4, 2) := by decide +kernel
theorem dX12_isSaid_82 : decode cX12_isSaid 82 = .ok (.iaload, 1) := by decide +kernel
theorem dX12_isSaid_83 : decode cX12_isSaid 83 = .ok (.bipush 22, 2) := by decide +kernel
theorem dX12_isSaid_85 : decode cX12_isSaid 85 = .ok (.if_icmp .ne 82, 3) := by decide +kernel
theorem dX12_isSaid_88 : decode cX12_isSaid 88 = .ok (.iinc 2 (-1), 3) := by decide +kernel
theorem dX12_isSaid_91 : decode cX12_isSaid 91 = .ok (.aload_n 0, 1) := by decide +kernel
theorem dX12_isSaid_92 : decode cX12_isSaid 92 = .ok (.getfield 78, 3) := by decide +kernel
theorem dX12_isSaid_95 : decode cX12_isSaid 95 = .ok (.iload_n 2, 1) := by decide +kernel
theorem dX12_isSaid_96 : decode cX12_isSaid 96 = .ok (.iconst 1, 1) := by decide +kernel
theorem dX12_isSaid_97 : decode cX12_isSaid 97 = .ok (.isub, 1) := by decide +kernel
theorem dX12_isSaid_98 : decode cX12_isSaid 98 = .ok (.aload_n 0, 1) := by decide +kernel
theorem dX12_isSaid_99 : decode cX12_isSaid 99 = .ok (.getfield 33, 3) := by decide +kernel
theorem dX12_isSaid_102 : decode cX12_isSaid 102 = .ok (.iload 4, 2) := by decide +kernel
theorem dX12_isSaid_104 : decode cX12_isSaid 104 = .ok (.iaload, 1) := by decide +kernel
theorem dX12_isSaid_105 : decode cX12_isSaid 105 = .ok (.bipush 21, 2) := by decide +kernel
theorem dX12_isSaid_107 : decode cX12_isSaid 107 = .ok (.if_icmp .ne 31, 3) := by decide +kernel
theorem dX12_isSaid_110 : decode cX12_isSaid 110 = .ok (.aload_n 0, 1) := by decide +kernel
theorem dX12_isSaid_111 : decode cX12_isSaid 111 = .ok (.getfield 78, 3) := by decide +kernel
theorem dX12_isSaid_114 : decode cX12_isSaid 114 = .ok (.iload_n 2, 1) := by decide +kernel
theorem dX12_isSaid_115 : decode cX12_isSaid 115 = .ok (.iconst 1, 1) := by decide +kernel
theorem dX12_isSaid_116 : decode cX12_isSaid 116 = .ok (.isub, 1) := by decide +kernel
theorem dX12_isSaid_117 : decode cX12_isSaid 117 = .ok (.baload, 1) := by decide +kernel
theorem dX12_isSaid_118 : decode cX12_isSaid 118 = .ok (.ifCond .eq 16, 3) := by decide +kernel
theorem dX12_isSaid_121 : decode cX12_isSaid 121 = .ok (.aload_n 0, 1) := by decide +kernel
theorem dX12_isSaid_122 : decode cX12_isSaid 122 = .ok (.getfield 78, 3) := by decide +kernel
theorem dX12_isSaid_125 : decode cX12_isSaid 125 = .ok (.iload_n 2, 1) := by decide +kernel
theorem dX12_isSaid_126 : decode cX12_isSaid 126 = .ok (.baload, 1) := by decide +kernel
theorem dX12_isSaid_127 : decode cX12_isSaid 127 = .ok (.ifCond .eq 7, 3) := by decide +kernel
theorem dX12_isSaid_130 : decode cX12_isSaid 130 = .ok (.iconst 1, 1) := by decide +kernel
theorem dX12_isSaid_131 : decode cX12_isSaid 131 = .ok (.goto 32, 3) := by decide +kernel
theorem dX12_isSaid_134 : decode cX12_isSaid 134 = .ok (.iconst 0, 1) := by decide +kernel
theorem dX12_isSaid_135 : decode cX12_isSaid 135 = .ok (.goto 28, 3) := by decide +kernel
theorem dX12_isSaid_138 : decode cX12_isSaid 138 = .ok (.aload_n 0, 1) := by decide +kernel
theorem dX12_isSaid_139 : decode cX12_isSaid 139 = .ok (.getfield 78, 3) := by decide +kernel
theorem dX12_isSaid_142 : decode cX12_isSaid 142 = .ok (.iload_n 2, 1) := by decide +kernel
theorem dX12_isSaid_143 : decode cX12_isSaid 143 = .ok (.iconst 1, 1) := by decide +kernel
theorem dX12_isSaid_144 : decode cX12_isSaid 144 = .ok (.isub, 1) := by decide +kernel
theorem dX12_isSaid_145 : decode cX12_isSaid 145 = .ok (.baload, 1) := by decide +kernel
theorem dX12_isSaid_146 : decode cX12_isSaid 146 = .ok (.ifCond .ne 12, 3) := by decide +kernel
theorem dX12_isSaid_149 : decode cX12_isSaid 149 = .ok (.aload_n 0, 1) := by decide +kernel
theorem dX12_isSaid_150 : decode cX12_isSaid 150 = .ok (.getfield 78, 3) := by decide +kernel
theorem dX12_isSaid_153 : decode cX12_isSaid 153 = .ok (.iload_n 2, 1) := by decide +kernel
theorem dX12_isSaid_154 : decode cX12_isSaid 154 = .ok (.baload, 1) := by decide +kernel
theorem dX12_isSaid_155 : decode cX12_isSaid 155 = .ok (.ifCond .eq 7, 3) := by decide +kernel
theorem dX12_isSaid_158 : decode cX12_isSaid 158 = .ok (.iconst 1, 1) := by decide +kernel
theorem dX12_isSaid_159 : decode cX12_isSaid 159 = .ok (.goto 4, 3) := by decide +kernel
theorem dX12_isSaid_162 : decode cX12_isSaid 162 = .ok (.iconst 0, 1) := by decide +kernel
theorem dX12_isSaid_163 : decode cX12_isSaid 163 = .ok (.bastore, 1) := by decide +kernel
theorem dX12_isSaid_164 : decode cX12_isSaid 164 = .ok (.goto 42, 3) := by decide +kernel
theorem dX12_isSaid_167 : decode cX12_isSaid 167 = .ok (.aload_n 0, 1) := by decide +kernel
theorem dX12_isSaid_168 : decode cX12_isSaid 168 = .ok (.getfield 78, 3) := by decide +kernel
theorem dX12_isSaid_171 : decode cX12_isSaid 171 = .ok (.iload_n 2, 1) := by decide +kernel
theorem dX12_isSaid_172 : decode cX12_isSaid 172 = .ok (.aload_n 0, 1) := by decide +kernel
theorem dX12_isSaid_173 : decode cX12_isSaid 173 = .ok (.iload_n 1, 1) := by decide +kernel
theorem dX12_isSaid_174 : decode cX12_isSaid 174 = .ok (.aload_n 0, 1) := by decide +kernel
theorem dX12_isSaid_175 : decode cX12_isSaid 175 = .ok (.getfield 33, 3) := by decide +kernel
theorem dX12_isSaid_178 : decode cX12_isSaid 178 = .ok (.iload 4, 2) := by decide +kernel
theorem dX12_isSaid_180 : decode cX12_isSaid 180 = .ok (.iaload, 1) := by decide +kernel
theorem dX12_isSaid_181 : decode cX12_isSaid 181 = .ok (.aload_n 0, 1) := by decide +kernel
theorem dX12_isSaid_182 : decode cX12_isSaid 182 = .ok (.getfield 33, 3) := by decide +kernel
theorem dX12_isSaid_185 : decode cX12_isSaid 185 = .ok (.iload 4, 2) := by decide +kernel
theorem dX12_isSaid_187 : decode cX12_isSaid 187 = .ok (.iconst 1, 1) := by decide +kernel
theorem dX12_isSaid_188 : decode cX12_isSaid 188 = .ok (.iadd, 1) := by decide +kernel
theorem dX12_isSaid_189 : decode cX12_isSaid 189 = .ok (.iaload, 1) := by decide +kernel
theorem dX12_isSaid_190 : decode cX12_isSaid 190 = .ok (.aload_n 0, 1) := by decide +kernel
theorem dX12_isSaid_191 : decode cX12_isSaid 191 = .ok (.getfield 33, 3) := by decide +kernel
theorem dX12_isSaid_194 : decode cX12_isSaid 194 = .ok (.iload 4, 2) := by decide +kernel
theorem dX12_isSaid_196 : decode cX12_isSaid 196 = .ok (.iconst 2, 1) := by decide +kernel
theorem dX12_isSaid_197 : decode cX12_isSaid 197 = .ok (.iadd, 1) := by decide +kernel
theorem dX12_isSaid_198 : decode cX12_isSaid 198 = .ok (.iaload, 1) := by decide +kernel
theorem dX12_isSaid_199 : decode cX12_isSaid 199 = .ok (.invokevirtual 463, 3) := by decide +kernel
theorem dX12_isSaid_202 : decode cX12_isSaid 202 = .ok (.bastore, 1) := by decide +kernel
theorem dX12_isSaid_203 : decode cX12_isSaid 203 = .ok (.iinc 2 1, 3) := by decide +kernel
theorem dX12_isSaid_206 : decode cX12_isSaid 206 = .ok (.iinc 3 1, 3) := by decide +kernel
theorem dX12_isSaid_209 : decode cX12_isSaid 209 = .ok (.goto (-205), 3) := by decide +kernel
theorem dX12_isSaid_212 : decode cX12_isSaid 212 = .ok (.aload_n 0, 1) := by decide +kernel
theorem dX12_isSaid_213 : decode cX12_isSaid 213 = .ok (.getfield 78, 3) := by decide +kernel
theorem dX12_isSaid_216 : decode cX12_isSaid 216 = .ok (.iconst 0, 1) := by decide +kernel
theorem dX12_isSaid_217 : decode cX12_isSaid 217 = .ok (.baload, 1) := by decide +kernel
theorem dX12_isSaid_218 : decode cX12_isSaid 218 = .ok (.ireturn, 1) := by decide +kernel
theorem dX12_said_0 : decode cX12_said 0 = .ok (.aload_n 0, 1) := by decide +kernel
theorem dX12_said_1 : decode cX12_said 1 = .ok (.iconst 0, 1) := by decide +kernel
theorem dX12_said_2 : decode cX12_said 2 = .ok (.putfield 1, 3) := by decide +kernel
theorem dX12_said_5 : decode cX12_said 5 = .ok (.aload_n 0, 1) := by decide +kernel
theorem dX12_said_6 : decode cX12_said 6 = .ok (.getfield 33, 3) := by decide +kernel
theorem dX12_said_9 : decode cX12_said 9 = .ok (.sipush 161, 3) := by decide +kernel
theorem dX12_said_12 : decode cX12_said 12 = .ok (.iaload, 1) := by decide +kernel
theorem dX12_said_13 : decode cX12_said 13 = .ok (.ifCond .eq 8, 3) := by decide +kernel
theorem dX12_said_16 : decode cX12_said 16 = .ok (.iload_n 1, 1) := by decide +kernel
theorem dX12_said_17 : decode cX12_said 17 = .ok (.iconst (-1), 1) := by decide +kernel
theorem dX12_said_18 : decode cX12_said 18 = .ok (.if_icmp .ge 5, 3) := by decide +kernel
theorem dX12_said_21 : decode cX12_said 21 = .ok (.iconst (-1), 1) := by decide +kernel
theorem dX12_said_22 : decode cX12_said 22 = .ok (.ireturn, 1) := by decide +kernel
theorem dX12_said_23 : decode cX12_said 23 = .ok (.iconst 0, 1) := by decide +kernel
theorem dX12_said_24 : decode cX12_said 24 = .ok (.istore_n 2, 1) := by decide +kernel
theorem dX12_said_25 : decode cX12_said 25 = .ok (.iconst 0, 1) := by decide +kernel
theorem dX12_said_26 : decode cX12_said 26 = .ok (.istore_n 3, 1) := by decide +kernel
theorem dX12_said_27 : decode cX12_said 27 = .ok (.iload_n 3, 1) := by decide +kernel
theorem dX12_said_28 : decode cX12_said 28 = .ok (.aload_n 0, 1) := by decide +kernel
theorem dX12_said_29 : decode cX12_said 29 = .ok (.getfield 33, 3) := by decide +kernel
theorem dX12_said_32 : decode cX12_said 32 = .ok (.iconst 1, 1) := by decide +kernel
theorem dX12_said_33 : decode cX12_said 33 = .ok (.iaload, 1) := by decide +kernel
theorem dX12_said_34 : decode cX12_said 34 = .ok (.if_icmp .ge 30, 3) := by decide +kernel
theorem dX12_said_37 : decode cX12_said 37 = .ok (.aload_n 0, 1) := by decide +kernel
theorem dX12_said_38 : decode cX12_said 38 = .ok (.iload_n 3, 1) := by decide +kernel
theorem dX12_said_39 : decode cX12_said 39 = .ok (.invokevirtual 467, 3) := by decide +kernel
theorem dX12_said_42 : decode cX12_said 42 = .ok (.ifCond .ne 6, 3) := by decide +kernel
theorem dX12_said_45 : decode cX12_said 45 = .ok (.goto 13, 3) := by decide +kernel
theorem dX12_said_48 : decode cX12_said 48 = .ok (.iload_n 2, 1) := by decide +kernel
theorem dX12_said_49 : decode cX12_said 49 = .ok (.iload_n 1, 1) := by decide +kernel
theorem dX12_said_50 : decode cX12_said 50 = .ok (.if_icmp .ne 5, 3) := by decide +kernel
theorem dX12_said_53 : decode cX12_said 53 = .ok (.iload_n 3, 1) := by decide +kernel
theorem dX12_said_54 : decode cX12_said 54 = .ok (.ireturn, 1) := by decide +kernel
theorem dX12_said_55 : decode cX12_said 55 = .ok (.iinc 2 1, 3) := by decide +kernel
theorem dX12_said_58 : decode cX12_said 58 = .ok (.iinc 3 1, 3) := by decide +kernel
theorem dX12_said_61 : decode cX12_said 61 = .ok (.goto (-34), 3) := by decide +kernel
theorem dX12_said_64 : decode cX12_said 64 = .ok (.iload_n 1, 1) := by decide +kernel
theorem dX12_said_65 : decode cX12_said 65 = .ok (.iconst (-1), 1) := by decide +kernel
theorem dX12_said_66 : decode cX12_said 66 = .ok (.if_icmp .ne 7, 3) := by decide +kernel
theorem dX12_said_69 : decode cX12_said 69 = .ok (.iload_n 2, 1) := by decide +kernel
theorem dX12_said_70 : decode cX12_said 70 = .ok (.goto 4, 3) := by decide +kernel
theorem dX12_said_73 : decode cX12_said 73 = .ok (.iconst (-1), 1) := by decide +kernel
theorem dX12_said_74 : decode cX12_said 74 = .ok (.ireturn, 1) := by decide +kernel
theorem dX12_image_0 : decode cX12_image 0 = .ok (.aload_n 0, 1) := by decide +kernel
theorem dX12_image_1 : decode cX12_image 1 = .ok (.iconst 0, 1) := by decide +kernel
theorem dX12_image_2 : decode cX12_image 2 = .ok (.putfield 1, 3) := by decide +kernel
theorem dX12_image_5 : decode cX12_image 5 = .ok (.iload_n 1, 1) := by decide +kernel
theorem dX12_image_6 : decode cX12_image 6 = .ok (.iconst 0, 1) := by decide +kernel
theorem dX12_image_7 : decode cX12_image 7 = .ok (.iconst 1, 1) := by decide +kernel
theorem dX12_image_8 : decode cX12_image 8 = .ok (.invokestatic 193, 3) := by decide +kernel
theorem dX12_image_11 : decode cX12_image 11 = .ok (.ifCond .ne 5, 3) := by decide +kernel
theorem dX12_image_14 : decode cX12_image 14 = .ok (.iconst 0, 1) := by decide +kernel
theorem dX12_image_15 : decode cX12_image 15 = .ok (.ireturn, 1) := by decide +kernel
theorem dX12_image_16 : decode cX12_image 16 = .ok (.iconst 0, 1) := by decide +kernel
theorem dX12_image_17 : decode cX12_image 17 = .ok (.istore_n 2, 1) := by decide +kernel
theorem dX12_image_18 : decode cX12_image 18 = .ok (.iload_n 2, 1) := by decide +kernel
theorem dX12_image_19 : decode cX12_image 19 = .ok (.sipush 342, 3) := by decide +kernel
theorem dX12_image_22 : decode cX12_image 22 = .ok (.if_icmp .ge 27, 3) := by decide +kernel
theorem dX12_image_25 : decode cX12_image 25 = .ok (.aload_n 0, 1) := by decide +kernel
theorem dX12_image_26 : decode cX12_image 26 = .ok (.getfield 81, 3) := by decide +kernel
theorem dX12_image_29 : decode cX12_image 29 = .ok (.sipush 342, 3) := by decide +kernel
theorem dX12_image_32 : decode cX12_image 32 = .ok (.iload_n 1, 1) := by decide +kernel
theorem dX12_image_33 : decode cX12_image 33 = .ok (.imul, 1) := by decide +kernel
theorem dX12_image_34 : decode cX12_image 34 = .ok (.iload_n 2, 1) := by decide +kernel
theorem dX12_image_35 : decode cX12_image 35 = .ok (.iadd, 1) := by decide +kernel
theorem dX12_image_36 : decode cX12_image 36 = .ok (.aload_n 0, 1) := by decide +kernel
theorem dX12_image_37 : decode cX12_image 37 = .ok (.getfield 33, 3) := by decide +kernel
theorem dX12_image_40 : decode cX12_image 40 = .ok (.iload_n 2, 1) := by decide +kernel
theorem dX12_image_41 : decode cX12_image 41 = .ok (.iaload, 1) := by decide +kernel
theorem dX12_image_42 : decode cX12_image 42 = .ok (.iastore, 1) := by decide +kernel
theorem dX12_image_43 : decode cX12_image 43 = .ok (.iinc 2 1, 3) := by decide +kernel
theorem dX12_image_46 : decode cX12_image 46 = .ok (.goto (-28), 3) := by decide +kernel
theorem dX12_image_49 : decode cX12_image 49 = .ok (.iconst 0, 1) := by decide +kernel
theorem dX12_image_50 : decode cX12_image 50 = .ok (.istore_n 2, 1) := by decide +kernel
theorem dX12_image_51 : decode cX12_image 51 = .ok (.iload_n 2, 1) := by decide +kernel
theorem dX12_image_52 : decode cX12_image 52 = .ok (.bipush 14, 2) := by decide +kernel
theorem dX12_image_54 : decode cX12_image 54 = .ok (.if_icmp .ge 26, 3) := by decide +kernel
theorem dX12_image_57 : decode cX12_image 57 = .ok (.aload_n 0, 1) := by decide +kernel
theorem dX12_image_58 : decode cX12_image 58 = .ok (.getfield 84, 3) := by decide +kernel
theorem dX12_image_61 : decode cX12_image 61 = .ok (.bipush 14, 2) := by decide +kernel
theorem dX12_image_63 : decode cX12_image 63 = .ok (.iload_n 1, 1) := by decide +kernel
theorem dX12_image_64 : decode cX12_image 64 = .ok (.imul, 1) := by decide +kernel
theorem dX12_image_65 : decode cX12_image 65 = .ok (.iload_n 2, 1) := by decide +kernel
theorem dX12_image_66 : decode cX12_image 66 = .ok (.iadd, 1) := by decide +kernel
theorem dX12_image_67 : decode cX12_image 67 = .ok (.aload_n 0, 1) := by decide +kernel
theorem dX12_image_68 : decode cX12_image 68 = .ok (.getfield 43, 3) := by decide +kernel
theorem dX12_image_71 : decode cX12_image 71 = .ok (.iload_n 2, 1) := by decide +kernel
theorem dX12_image_72 : decode cX12_image 72 = .ok (.laload, 1) := by decide +kernel
theorem dX12_image_73 : decode cX12_image 73 = .ok (.lastore, 1) := by decide +kernel
theorem dX12_image_74 : decode cX12_image 74 = .ok (.iinc 2 1, 3) := by decide +kernel
theorem dX12_image_77 : decode cX12_image 77 = .ok (.goto (-26), 3) := by decide +kernel
theorem dX12_image_80 : decode cX12_image 80 = .ok (.aload_n 0, 1) := by decide +kernel
theorem dX12_image_81 : decode cX12_image 81 = .ok (.getfield 87, 3) := by decide +kernel
theorem dX12_image_84 : decode cX12_image 84 = .ok (.iload_n 1, 1) := by decide +kernel
theorem dX12_image_85 : decode cX12_image 85 = .ok (.iconst 1, 1) := by decide +kernel
theorem dX12_image_86 : decode cX12_image 86 = .ok (.bastore, 1) := by decide +kernel
theorem dX12_image_87 : decode cX12_image 87 = .ok (.iconst 1, 1) := by decide +kernel
theorem dX12_image_88 : decode cX12_image 88 = .ok (.ireturn, 1) := by decide +kernel
theorem dX12_restore_0 : decode cX12_restore 0 = .ok (.aload_n 0, 1) := by decide +kernel
theorem dX12_restore_1 : decode cX12_restore 1 = .ok (.iconst 0, 1) := by decide +kernel
theorem dX12_restore_2 : decode cX12_restore 2 = .ok (.putfield 1, 3) := by decide +kernel
theorem dX12_restore_5 : decode cX12_restore 5 = .ok (.iload_n 1, 1) := by decide +kernel
theorem dX12_restore_6 : decode cX12_restore 6 = .ok (.iconst 0, 1) := by decide +kernel
theorem dX12_restore_7 : decode cX12_restore 7 = .ok (.iconst 1, 1) := by decide +kernel
theorem dX12_restore_8 : decode cX12_restore 8 = .ok (.invokestatic 193, 3) := by decide +kernel
theorem dX12_restore_11 : decode cX12_restore 11 = .ok (.ifCond .eq 12, 3) := by decide +kernel
theorem dX12_restore_14 : decode cX12_restore 14 = .ok (.aload_n 0, 1) := by decide +kernel
theorem dX12_restore_15 : decode cX12_restore 15 = .ok (.getfield 87, 3) := by decide +kernel
theorem dX12_restore_18 : decode cX12_restore 18 = .ok (.iload_n 1, 1) := by decide +kernel
theorem dX12_restore_19 : decode cX12_restore 19 = .ok (.baload, 1) := by decide +kernel
theorem dX12_restore_20 : decode cX12_restore 20 = .ok (.ifCond .ne 5, 3) := by decide +kernel
theorem dX12_restore_23 : decode cX12_restore 23 = .ok (.iconst 0, 1) := by decide +kernel
theorem dX12_restore_24 : decode cX12_restore 24 = .ok (.ireturn, 1) := by decide +kernel
theorem dX12_restore_25 : decode cX12_restore 25 = .ok (.iconst 0, 1) := by decide +kernel
theorem dX12_restore_26 : decode cX12_restore 26 = .ok (.istore_n 2, 1) := by decide +kernel
theorem dX12_restore_27 : decode cX12_restore 27 = .ok (.iload_n 2, 1) := by decide +kernel
theorem dX12_restore_28 : decode cX12_restore 28 = .ok (.sipush 342, 3) := by decide +kernel
theorem dX12_restore_31 : decode cX12_restore 31 = .ok (.if_icmp .ge 27, 3) := by decide +kernel
theorem dX12_restore_34 : decode cX12_restore 34 = .ok (.aload_n 0, 1) := by decide +kernel
theorem dX12_restore_35 : decode cX12_restore 35 = .ok (.getfield 33, 3) := by decide +kernel
theorem dX12_restore_38 : decode cX12_restore 38 = .ok (.iload_n 2, 1) := by decide +kernel
theorem dX12_restore_39 : decode cX12_restore 39 = .ok (.aload_n 0, 1) := by decide +kernel
theorem dX12_restore_40 : decode cX12_restore 40 = .ok (.getfield 81, 3) := by decide +kernel
theorem dX12_restore_43 : decode cX12_restore 43 = .ok (.sipush 342, 3) := by decide +kernel
theorem dX12_restore_46 : decode cX12_restore 46 = .ok (.iload_n 1, 1) := by decide +kernel
theorem dX12_restore_47 : decode cX12_restore 47 = .ok (.imul, 1) := by decide +kernel
theorem dX12_restore_48 : decode cX12_restore 48 = .ok (.iload_n 2, 1) := by decide +kernel
theorem dX12_restore_49 : decode cX12_restore 49 = .ok (.iadd, 1) := by decide +kernel
theorem dX12_restore_50 : decode cX12_restore 50 = .ok (.iaload, 1) := by decide +kernel
theorem dX12_restore_51 : decode cX12_restore 51 = .ok (.iastore, 1) := by decide +kernel
theorem dX12_restore_52 : decode cX12_restore 52 = .ok (.iinc 2 1, 3) := by decide +kernel
theorem dX12_restore_55 : decode cX12_restore 55 = .ok (.goto (-28), 3) := by decide +kernel
theorem dX12_restore_58 : decode cX12_restore 58 = .ok (.iconst 0, 1) := by decide +kernel
theorem dX12_restore_59 : decode cX12_restore 59 = .ok (.istore_n 2, 1) := by decide +kernel
theorem dX12_restore_60 : decode cX12_restore 60 = .ok (.iload_n 2, 1) := by decide +kernel
theorem dX12_restore_61 : decode cX12_restore 61 = .ok (.bipush 14, 2) := by decide +kernel
theorem dX12_restore_63 : decode cX12_restore 63 = .ok (.if_icmp .ge 26, 3) := by decide +kernel
theorem dX12_restore_66 : decode cX12_restore 66 = .ok (.aload_n 0, 1) := by decide +kernel
theorem dX12_restore_67 : decode cX12_restore 67 = .ok (.getfield 43, 3) := by decide +kernel
theorem dX12_restore_70 : decode cX12_restore 70 = .ok (.iload_n 2, 1) := by decide +kernel
theorem dX12_restore_71 : decode cX12_restore 71 = .ok (.aload_n 0, 1) := by decide +kernel
theorem dX12_restore_72 : decode cX12_restore 72 = .ok (.getfield 84, 3) := by decide +kernel
theorem dX12_restore_75 : decode cX12_restore 75 = .ok (.bipush 14, 2) := by decide +kernel
theorem dX12_restore_77 : decode cX12_restore 77 = .ok (.iload_n 1, 1) := by decide +kernel
theorem dX12_restore_78 : decode cX12_restore 78 = .ok (.imul, 1) := by decide +kernel
theorem dX12_restore_79 : decode cX12_restore 79 = .ok (.iload_n 2, 1) := by decide +kernel
theorem dX12_restore_80 : decode cX12_restore 80 = .ok (.iadd, 1) := by decide +kernel
theorem dX12_restore_81 : decode cX12_restore 81 = .ok (.laload, 1) := by decide +kernel
theorem dX12_restore_82 : decode cX12_restore 82 = .ok (.lastore, 1) := by decide +kernel
theorem dX12_restore_83 : decode cX12_restore 83 = .ok (.iinc 2 1, 3) := by decide +kernel
theorem dX12_restore_86 : decode cX12_restore 86 = .ok (.goto (-26), 3) := by decide +kernel
theorem dX12_restore_89 : decode cX12_restore 89 = .ok (.aload_n 0, 1) := by decide +kernel
theorem dX12_restore_90 : decode cX12_restore 90 = .ok (.iconst 0, 1) := by decide +kernel
theorem dX12_restore_91 : decode cX12_restore 91 = .ok (.putfield 271, 3) := by decide +kernel
theorem dX12_restore_94 : decode cX12_restore 94 = .ok (.iconst 1, 1) := by decide +kernel
theorem dX12_restore_95 : decode cX12_restore 95 = .ok (.ireturn, 1) := by decide +kernel
theorem dX12_count_0 : decode cX12_count 0 = .ok (.aload_n 0, 1) := by decide +kernel
theorem dX12_count_1 : decode cX12_count 1 = .ok (.iconst 0, 1) := by decide +kernel
theorem dX12_count_2 : decode cX12_count 2 = .ok (.putfield 1, 3) := by decide +kernel
theorem dX12_count_5 : decode cX12_count 5 = .ok (.iload_n 1, 1) := by decide +kernel
theorem dX12_count_6 : decode cX12_count 6 = .ok (.iconst 5, 1) := by decide +kernel
theorem dX12_count_7 : decode cX12_count 7 = .ok (.if_icmp .ne 10, 3) := by decide +kernel
theorem dX12_count_10 : decode cX12_count 10 = .ok (.aload_n 0, 1) := by decide +kernel
theorem dX12_count_11 : decode cX12_count 11 = .ok (.getfield 7, 3) := by decide +kernel
theorem dX12_count_14 : decode cX12_count 14 = .ok (.goto 22, 3) := by decide +kernel
theorem dX12_count_17 : decode cX12_count 17 = .ok (.iload_n 1, 1) := by decide +kernel
theorem dX12_count_18 : decode cX12_count 18 = .ok (.iconst 0, 1) := by decide +kernel
theorem dX12_count_19 : decode cX12_count 19 = .ok (.iconst 4, 1) := by decide +kernel
theorem dX12_count_20 : decode cX12_count 20 = .ok (.invokestatic 193, 3) := by decide +kernel
theorem dX12_count_23 : decode cX12_count 23 = .ok (.ifCond .eq 12, 3) := by decide +kernel
theorem dX12_count_26 : decode cX12_count 26 = .ok (.aload_n 0, 1) := by decide +kernel
theorem dX12_count_27 : decode cX12_count 27 = .ok (.getfield 33, 3) := by decide +kernel
theorem dX12_count_30 : decode cX12_count 30 = .ok (.iload_n 1, 1) := by decide +kernel
theorem dX12_count_31 : decode cX12_count 31 = .ok (.iaload, 1) := by decide +kernel
theorem dX12_count_32 : decode cX12_count 32 = .ok (.goto 4, 3) := by decide +kernel
theorem dX12_count_35 : decode cX12_count 35 = .ok (.iconst (-1), 1) := by decide +kernel
theorem dX12_count_36 : decode cX12_count 36 = .ok (.ireturn, 1) := by decide +kernel
