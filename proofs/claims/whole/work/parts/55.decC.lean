theorem dX5_init_0 : decode cX5_init 0 = .ok (.aload_n 0, 1) := by decide +kernel
theorem dX5_init_1 : decode cX5_init 1 = .ok (.invokespecial 1, 3) := by decide +kernel
theorem dX5_init_4 : decode cX5_init 4 = .ok (.aload_n 0, 1) := by decide +kernel
theorem dX5_init_5 : decode cX5_init 5 = .ok (.iconst (-1), 1) := by decide +kernel
theorem dX5_init_6 : decode cX5_init 6 = .ok (.putfield 9, 3) := by decide +kernel
theorem dX5_init_9 : decode cX5_init 9 = .ok (.aload_n 0, 1) := by decide +kernel
theorem dX5_init_10 : decode cX5_init 10 = .ok (.bipush 82, 2) := by decide +kernel
theorem dX5_init_12 : decode cX5_init 12 = .ok (.newarray .int, 2) := by decide +kernel
theorem dX5_init_14 : decode cX5_init 14 = .ok (.putfield 13, 3) := by decide +kernel
theorem dX5_init_17 : decode cX5_init 17 = .ok (.aload_n 0, 1) := by decide +kernel
theorem dX5_init_18 : decode cX5_init 18 = .ok (.bipush 82, 2) := by decide +kernel
theorem dX5_init_20 : decode cX5_init 20 = .ok (.newarray .int, 2) := by decide +kernel
theorem dX5_init_22 : decode cX5_init 22 = .ok (.putfield 17, 3) := by decide +kernel
theorem dX5_init_25 : decode cX5_init 25 = .ok (.aload_n 0, 1) := by decide +kernel
theorem dX5_init_26 : decode cX5_init 26 = .ok (.bipush 82, 2) := by decide +kernel
theorem dX5_init_28 : decode cX5_init 28 = .ok (.newarray .int, 2) := by decide +kernel
theorem dX5_init_30 : decode cX5_init 30 = .ok (.putfield 20, 3) := by decide +kernel
theorem dX5_init_33 : decode cX5_init 33 = .ok (.aload_n 0, 1) := by decide +kernel
theorem dX5_init_34 : decode cX5_init 34 = .ok (.sipush 820, 3) := by decide +kernel
theorem dX5_init_37 : decode cX5_init 37 = .ok (.newarray .int, 2) := by decide +kernel
theorem dX5_init_39 : decode cX5_init 39 = .ok (.putfield 23, 3) := by decide +kernel
theorem dX5_init_42 : decode cX5_init 42 = .ok (.aload_n 0, 1) := by decide +kernel
theorem dX5_init_43 : decode cX5_init 43 = .ok (.sipush 164, 3) := by decide +kernel
theorem dX5_init_46 : decode cX5_init 46 = .ok (.newarray .int, 2) := by decide +kernel
theorem dX5_init_48 : decode cX5_init 48 = .ok (.putfield 26, 3) := by decide +kernel
theorem dX5_init_51 : decode cX5_init 51 = .ok (.aload_n 0, 1) := by decide +kernel
theorem dX5_init_52 : decode cX5_init 52 = .ok (.iconst 2, 1) := by decide +kernel
theorem dX5_init_53 : decode cX5_init 53 = .ok (.newarray .boolean, 2) := by decide +kernel
theorem dX5_init_55 : decode cX5_init 55 = .ok (.putfield 29, 3) := by decide +kernel
theorem dX5_init_58 : decode cX5_init 58 = .ok (.aload_n 0, 1) := by decide +kernel
theorem dX5_init_59 : decode cX5_init 59 = .ok (.iconst 4, 1) := by decide +kernel
theorem dX5_init_60 : decode cX5_init 60 = .ok (.newarray .long, 2) := by decide +kernel
theorem dX5_init_62 : decode cX5_init 62 = .ok (.putfield 33, 3) := by decide +kernel
theorem dX5_init_65 : decode cX5_init 65 = .ok (.aload_n 0, 1) := by decide +kernel
theorem dX5_init_66 : decode cX5_init 66 = .ok (.iconst 4, 1) := by decide +kernel
theorem dX5_init_67 : decode cX5_init 67 = .ok (.newarray .long, 2) := by decide +kernel
theorem dX5_init_69 : decode cX5_init 69 = .ok (.putfield 37, 3) := by decide +kernel
theorem dX5_init_72 : decode cX5_init 72 = .ok (.aload_n 0, 1) := by decide +kernel
theorem dX5_init_73 : decode cX5_init 73 = .ok (.sipush 600, 3) := by decide +kernel
theorem dX5_init_76 : decode cX5_init 76 = .ok (.newarray .int, 2) := by decide +kernel
theorem dX5_init_78 : decode cX5_init 78 = .ok (.putfield 40, 3) := by decide +kernel
theorem dX5_init_81 : decode cX5_init 81 = .ok (.aload_n 0, 1) := by decide +kernel
theorem dX5_init_82 : decode cX5_init 82 = .ok (.bipush 16, 2) := by decide +kernel
theorem dX5_init_84 : decode cX5_init 84 = .ok (.newarray .long, 2) := by decide +kernel
theorem dX5_init_86 : decode cX5_init 86 = .ok (.putfield 43, 3) := by decide +kernel
theorem dX5_init_89 : decode cX5_init 89 = .ok (.aload_n 0, 1) := by decide +kernel
theorem dX5_init_90 : decode cX5_init 90 = .ok (.bipush 16, 2) := by decide +kernel
theorem dX5_init_92 : decode cX5_init 92 = .ok (.newarray .long, 2) := by decide +kernel
theorem dX5_init_94 : decode cX5_init 94 = .ok (.putfield 46, 3) := by decide +kernel
theorem dX5_init_97 : decode cX5_init 97 = .ok (.aload_n 0, 1) := by decide +kernel
theorem dX5_init_98 : decode cX5_init 98 = .ok (.bipush 64, 2) := by decide +kernel
theorem dX5_init_100 : decode cX5_init 100 = .ok (.newarray .long, 2) := by decide +kernel
theorem dX5_init_102 : decode cX5_init 102 = .ok (.putfield 49, 3) := by decide +kernel
theorem dX5_init_105 : decode cX5_init 105 = .ok (.return_, 1) := by decide +kernel
theorem dX5_thrown_0 : decode cX5_thrown 0 = .ok (.aload_n 0, 1) := by decide +kernel
theorem dX5_thrown_1 : decode cX5_thrown 1 = .ok (.getfield 52, 3) := by decide +kernel
theorem dX5_thrown_4 : decode cX5_thrown 4 = .ok (.ireturn, 1) := by decide +kernel
theorem dX5_in_0 : decode cX5_in 0 = .ok (.lload_n 0, 1) := by decide +kernel
theorem dX5_in_1 : decode cX5_in 1 = .ok (.lload_n 2, 1) := by decide +kernel
theorem dX5_in_2 : decode cX5_in 2 = .ok (.lcmp, 1) := by decide +kernel
theorem dX5_in_3 : decode cX5_in 3 = .ok (.ifCond .lt 14, 3) := by decide +kernel
theorem dX5_in_6 : decode cX5_in 6 = .ok (.lload_n 0, 1) := by decide +kernel
theorem dX5_in_7 : decode cX5_in 7 = .ok (.lload 4, 2) := by decide +kernel
theorem dX5_in_9 : decode cX5_in 9 = .ok (.lcmp, 1) := by decide +kernel
theorem dX5_in_10 : decode cX5_in 10 = .ok (.ifCond .gt 7, 3) := by decide +kernel
theorem dX5_in_13 : decode cX5_in 13 = .ok (.iconst 1, 1) := by decide +kernel
theorem dX5_in_14 : decode cX5_in 14 = .ok (.goto 4, 3) := by decide +kernel
theorem dX5_in_17 : decode cX5_in 17 = .ok (.iconst 0, 1) := by decide +kernel
theorem dX5_in_18 : decode cX5_in 18 = .ok (.ireturn, 1) := by decide +kernel
theorem dX5_lesser_0 : decode cX5_lesser 0 = .ok (.lload_n 0, 1) := by decide +kernel
theorem dX5_lesser_1 : decode cX5_lesser 1 = .ok (.lload_n 2, 1) := by decide +kernel
theorem dX5_lesser_2 : decode cX5_lesser 2 = .ok (.lcmp, 1) := by decide +kernel
theorem dX5_lesser_3 : decode cX5_lesser 3 = .ok (.ifCond .ge 7, 3) := by decide +kernel
theorem dX5_lesser_6 : decode cX5_lesser 6 = .ok (.lload_n 0, 1) := by decide +kernel
theorem dX5_lesser_7 : decode cX5_lesser 7 = .ok (.goto 4, 3) := by decide +kernel
theorem dX5_lesser_10 : decode cX5_lesser 10 = .ok (.lload_n 2, 1) := by decide +kernel
theorem dX5_lesser_11 : decode cX5_lesser 11 = .ok (.lreturn, 1) := by decide +kernel
theorem dX5_greater_0 : decode cX5_greater 0 = .ok (.lload_n 0, 1) := by decide +kernel
theorem dX5_greater_1 : decode cX5_greater 1 = .ok (.lload_n 2, 1) := by decide +kernel
theorem dX5_greater_2 : decode cX5_greater 2 = .ok (.lcmp, 1) := by decide +kernel
theorem dX5_greater_3 : decode cX5_greater 3 = .ok (.ifCond .le 7, 3) := by decide +kernel
theorem dX5_greater_6 : decode cX5_greater 6 = .ok (.lload_n 0, 1) := by decide +kernel
theorem dX5_greater_7 : decode cX5_greater 7 = .ok (.goto 4, 3) := by decide +kernel
theorem dX5_greater_10 : decode cX5_greater 10 = .ok (.lload_n 2, 1) := by decide +kernel
theorem dX5_greater_11 : decode cX5_greater 11 = .ok (.lreturn, 1) := by decide +kernel
theorem dX5_begins_0 : decode cX5_begins 0 = .ok (.aload_n 0, 1) := by decide +kernel
theorem dX5_begins_1 : decode cX5_begins 1 = .ok (.iconst 0, 1) := by decide +kernel
theorem dX5_begins_2 : decode cX5_begins 2 = .ok (.putfield 52, 3) := by decide +kernel
theorem dX5_begins_5 : decode cX5_begins 5 = .ok (.aload_n 0, 1) := by decide +kernel
theorem dX5_begins_6 : decode cX5_begins 6 = .ok (.iconst 0, 1) := by decide +kernel
theorem dX5_begins_7 : decode cX5_begins 7 = .ok (.putfield 55, 3) := by decide +kernel
theorem dX5_begins_10 : decode cX5_begins 10 = .ok (.aload_n 0, 1) := by decide +kernel
theorem dX5_begins_11 : decode cX5_begins 11 = .ok (.iconst (-1), 1) := by decide +kernel
theorem dX5_begins_12 : decode cX5_begins 12 = .ok (.putfield 9, 3) := by decide +kernel
theorem dX5_begins_15 : decode cX5_begins 15 = .ok (.return_, 1) := by decide +kernel
theorem dX5_refuse_0 : decode cX5_refuse 0 = .ok (.aload_n 0, 1) := by decide +kernel
theorem dX5_refuse_1 : decode cX5_refuse 1 = .ok (.getfield 55, 3) := by decide +kernel
theorem dX5_refuse_4 : decode cX5_refuse 4 = .ok (.ifCond .ne 12, 3) := by decide +kernel
theorem dX5_refuse_7 : decode cX5_refuse 7 = .ok (.iload_n 1, 1) := by decide +kernel
theorem dX5_refuse_8 : decode cX5_refuse 8 = .ok (.ifCond .eq 8, 3) := by decide +kernel
theorem dX5_refuse_11 : decode cX5_refuse 11 = .ok (.aload_n 0, 1) := by decide +kernel
theorem dX5_refuse_12 : decode cX5_refuse 12 = .ok (.iload_n 2, 1) := by decide +kernel
theorem dX5_refuse_13 : decode cX5_refuse 13 = .ok (.putfield 55, 3) := by decide +kernel
theorem dX5_refuse_16 : decode cX5_refuse 16 = .ok (.aload_n 0, 1) := by decide +kernel
theorem dX5_refuse_17 : decode cX5_refuse 17 = .ok (.getfield 55, 3) := by decide +kernel
theorem dX5_refuse_20 : decode cX5_refuse 20 = .ok (.ifCond .eq 7, 3) := by decide +kernel
theorem dX5_refuse_23 : decode cX5_refuse 23 = .ok (.iconst 1, 1) := by decide +kernel
theorem dX5_refuse_24 : decode cX5_refuse 24 = .ok (.goto 4, 3) := by decide +kernel
theorem dX5_refuse_27 : decode cX5_refuse 27 = .ok (.iconst 0, 1) := by decide +kernel
theorem dX5_refuse_28 : decode cX5_refuse 28 = .ok (.ireturn, 1) := by decide +kernel
theorem dX5_feed_0 : decode cX5_feed 0 = .ok (.aload_n 0, 1) := by decide +kernel
theorem dX5_feed_1 : decode cX5_feed 1 = .ok (.iconst 0, 1) := by decide +kernel
theorem dX5_feed_2 : decode cX5_feed 2 = .ok (.putfield 52, 3) := by decide +kernel
theorem dX5_feed_5 : decode cX5_feed 5 = .ok (.aload_n 0, 1) := by decide +kernel
theorem dX5_feed_6 : decode cX5_feed 6 = .ok (.getfield 58, 3) := by decide +kernel
theorem dX5_feed_9 : decode cX5_feed 9 = .ok (.bipush 20, 2) := by decide +kernel
theorem dX5_feed_11 : decode cX5_feed 11 = .ok (.iadd, 1) := by decide +kernel
theorem dX5_feed_12 : decode cX5_feed 12 = .ok (.sipush 600, 3) := by decide +kernel
theorem dX5_feed_15 : decode cX5_feed 15 = .ok (.if_icmp .le 5, 3) := by decide +kernel
theorem dX5_feed_18 : decode cX5_feed 18 = .ok (.iconst (-1), 1) := by decide +kernel
theorem dX5_feed_19 : decode cX5_feed 19 = .ok (.ireturn, 1) := by decide +kernel
theorem dX5_feed_20 : decode cX5_feed 20 = .ok (.iconst 0, 1) := by decide +kernel
theorem dX5_feed_21 : decode cX5_feed 21 = .ok (.istore 6, 2) := by decide +kernel
theorem dX5_feed_23 : decode cX5_feed 23 = .ok (.iload 6, 2) := by decide +kernel
theorem dX5_feed_25 : decode cX5_feed 25 = .ok (.bipush 20, 2) := by decide +kernel
theorem dX5_feed_27 : decode cX5_feed 27 = .ok (.if_icmp .ge 86, 3) := by decide +kernel
theorem dX5_feed_30 : decode cX5_feed 30 = .ok (.iload 6, 2) := by decide +kernel
theorem dX5_feed_32 : decode cX5_feed 32 = .ok (.iconst 4, 1) := by decide +kernel
theorem dX5_feed_33 : decode cX5_feed 33 = .ok (.if_icmp .ge 7, 3) := by decide +kernel
theorem dX5_feed_36 : decode cX5_feed 36 = .ok (.iload_n 1, 1) := by decide +kernel
theorem dX5_feed_37 : decode cX5_feed 37 = .ok (.goto 39, 3) := by decide +kernel
theorem dX5_feed_40 : decode cX5_feed 40 = .ok (.iload 6, 2) := by decide +kernel
theorem dX5_feed_42 : decode cX5_feed 42 = .ok (.bipush 8, 2) := by decide +kernel
theorem dX5_feed_44 : decode cX5_feed 44 = .ok (.if_icmp .ge 7, 3) := by decide +kernel
theorem dX5_feed_47 : decode cX5_feed 47 = .ok (.iload_n 2, 1) := by decide +kernel
theorem dX5_feed_48 : decode cX5_feed 48 = .ok (.goto 28, 3) := by decide +kernel
theorem dX5_feed_51 : decode cX5_feed 51 = .ok (.iload 6, 2) := by decide +kernel
theorem dX5_feed_53 : decode cX5_feed 53 = .ok (.bipush 12, 2) := by decide +kernel
theorem dX5_feed_55 : decode cX5_feed 55 = .ok (.if_icmp .ge 7, 3) := by decide +kernel
theorem dX5_feed_58 : decode cX5_feed 58 = .ok (.iload_n 3, 1) := by decide +kernel
theorem dX5_feed_59 : decode cX5_feed 59 = .ok (.goto 17, 3) := by decide +kernel
theorem dX5_feed_62 : decode cX5_feed 62 = .ok (.iload 6, 2) := by decide +kernel
theorem dX5_feed_64 : decode cX5_feed 64 = .ok (.bipush 16, 2) := by decide +kernel
theorem dX5_feed_66 : decode cX5_feed 66 = .ok (.if_icmp .ge 8, 3) := by decide +kernel
theorem dX5_feed_69 : decode cX5_feed 69 = .ok (.iload 4, 2) := by decide +kernel
theorem dX5_feed_71 : decode cX5_feed 71 = .ok (.goto 5, 3) := by decide +kernel
theorem dX5_feed_74 : decode cX5_feed 74 = .ok (.iload 5, 2) := by decide +kernel
theorem dX5_feed_76 : decode cX5_feed 76 = .ok (.istore 7, 2) := by decide +kernel
theorem dX5_feed_78 : decode cX5_feed 78 = .ok (.aload_n 0, 1) := by decide +kernel
theorem dX5_feed_79 : decode cX5_feed 79 = .ok (.getfield 40, 3) := by decide +kernel
theorem dX5_feed_82 : decode cX5_feed 82 = .ok (.aload_n 0, 1) := by decide +kernel
theorem dX5_feed_83 : decode cX5_feed 83 = .ok (.getfield 58, 3) := by decide +kernel
theorem dX5_feed_86 : decode cX5_feed 86 = .ok (.iload 6, 2) := by decide +kernel
theorem dX5_feed_88 : decode cX5_feed 88 = .ok (.iadd, 1) := by decide +kernel
theorem dX5_feed_89 : decode cX5_feed 89 = .ok (.iload 7, 2) := by decide +kernel
theorem dX5_feed_91 : decode cX5_feed 91 = .ok (.bipush 24, 2) := by decide +kernel
theorem dX5_feed_93 : decode cX5_feed 93 = .ok (.bipush 8, 2) := by decide +kernel
theorem dX5_feed_95 : decode cX5_feed 95 = .ok (.iload 6, 2) := by decide +kernel
theorem dX5_feed_97 : decode cX5_feed 97 = .ok (.iconst 4, 1) := by decide +kernel
theorem dX5_feed_98 : decode cX5_feed 98 = .ok (.irem, 1) := by decide +kernel
theorem dX5_feed_99 : decode cX5_feed 99 = .ok (.imul, 1) := by decide +kernel
theorem dX5_feed_100 : decode cX5_feed 100 = .ok (.isub, 1) := by decide +kernel
theorem dX5_feed_101 : decode cX5_feed 101 = .ok (.ishr, 1) := by decide +kernel
theorem dX5_feed_102 : decode cX5_feed 102 = .ok (.sipush 255, 3) := by decide +kernel
theorem dX5_feed_105 : decode cX5_feed 105 = .ok (.iand, 1) := by decide +kernel
theorem dX5_feed_106 : decode cX5_feed 106 = .ok (.iastore, 1) := by decide +kernel
theorem dX5_feed_107 : decode cX5_feed 107 = .ok (.iinc 6 1, 3) := by decide +kernel
theorem dX5_feed_110 : decode cX5_feed 110 = .ok (.goto (-87), 3) := by decide +kernel
theorem dX5_feed_113 : decode cX5_feed 113 = .ok (.aload_n 0, 1) := by decide +kernel
theorem dX5_feed_114 : decode cX5_feed 114 = .ok (.dup, 1) := by decide +kernel
theorem dX5_feed_115 : decode cX5_feed 115 = .ok (.getfield 58, 3) := by decide +kernel
theorem dX5_feed_118 : decode cX5_feed 118 = .ok (.bipush 20, 2) := by decide +kernel
theorem dX5_feed_120 : decode cX5_feed 120 = .ok (.iadd, 1) := by decide +kernel
theorem dX5_feed_121 : decode cX5_feed 121 = .ok (.putfield 58, 3) := by decide +kernel
theorem dX5_feed_124 : decode cX5_feed 124 = .ok (.aload_n 0, 1) := by decide +kernel
theorem dX5_feed_125 : decode cX5_feed 125 = .ok (.getfield 58, 3) := by decide +kernel
theorem dX5_feed_128 : decode cX5_feed 128 = .ok (.ireturn, 1) := by decide +kernel
theorem dX5_size_0 : decode cX5_size 0 = .ok (.aload_n 0, 1) := by decide +kernel
theorem dX5_size_1 : decode cX5_size 1 = .ok (.iconst 0, 1) := by decide +kernel
theorem dX5_size_2 : decode cX5_size 2 = .ok (.putfield 52, 3) := by decide +kernel
theorem dX5_size_5 : decode cX5_size 5 = .ok (.aload_n 0, 1) := by decide +kernel
theorem dX5_size_6 : decode cX5_size 6 = .ok (.getfield 58, 3) := by decide +kernel
theorem dX5_size_9 : decode cX5_size 9 = .ok (.ireturn, 1) := by decide +kernel
theorem dX5_seen_0 : decode cX5_seen 0 = .ok (.iload_n 1, 1) := by decide +kernel
theorem dX5_seen_1 : decode cX5_seen 1 = .ok (.aload_n 0, 1) := by decide +kernel
theorem dX5_seen_2 : decode cX5_seen 2 = .ok (.getfield 61, 3) := by decide +kernel
theorem dX5_seen_5 : decode cX5_seen 5 = .ok (.if_icmp .ge 12, 3) := by decide +kernel
theorem dX5_seen_8 : decode cX5_seen 8 = .ok (.aload_n 0, 1) := by decide +kernel
theorem dX5_seen_9 : decode cX5_seen 9 = .ok (.getfield 40, 3) := by decide +kernel
theorem dX5_seen_12 : decode cX5_seen 12 = .ok (.iload_n 1, 1) := by decide +kernel
theorem dX5_seen_13 : decode cX5_seen 13 = .ok (.iaload, 1) := by decide +kernel
theorem dX5_seen_14 : decode cX5_seen 14 = .ok (.goto 4, 3) := by decide +kernel
theorem dX5_seen_17 : decode cX5_seen 17 = .ok (.iconst (-1), 1) := by decide +kernel
theorem dX5_seen_18 : decode cX5_seen 18 = .ok (.ireturn, 1) := by decide +kernel
theorem dX5_isLetter_0 : decode cX5_isLetter 0 = .ok (.iload_n 0, 1) := by decide +kernel
theorem dX5_isLetter_1 : decode cX5_isLetter 1 = .ok (.bipush 97, 2) := by decide +kernel
theorem dX5_isLetter_3 : decode cX5_isLetter 3 = .ok (.if_icmp .lt 13, 3) := by decide +kernel
theorem dX5_isLetter_6 : decode cX5_isLetter 6 = .ok (.iload_n 0, 1) := by decide +kernel
theorem dX5_isLetter_7 : decode cX5_isLetter 7 = .ok (.bipush 122, 2) := by decide +kernel
theorem dX5_isLetter_9 : decode cX5_isLetter 9 = .ok (.if_icmp .gt 7, 3) := by decide +kernel
theorem dX5_isLetter_12 : decode cX5_isLetter 12 = .ok (.iconst 1, 1) := by decide +kernel
theorem dX5_isLetter_13 : decode cX5_isLetter 13 = .ok (.goto 4, 3) := by decide +kernel
theorem dX5_isLetter_16 : decode cX5_isLetter 16 = .ok (.iconst 0, 1) := by decide +kernel
theorem dX5_isLetter_17 : decode cX5_isLetter 17 = .ok (.ireturn, 1) := by decide +kernel
theorem dX5_isDigit_0 : decode cX5_isDigit 0 = .ok (.iload_n 0, 1) := by decide +kernel
theorem dX5_isDigit_1 : decode cX5_isDigit 1 = .ok (.bipush 48, 2) := by decide +kernel
theorem dX5_isDigit_3 : decode cX5_isDigit 3 = .ok (.if_icmp .lt 13, 3) := by decide +kernel
theorem dX5_isDigit_6 : decode cX5_isDigit 6 = .ok (.iload_n 0, 1) := by decide +kernel
theorem dX5_isDigit_7 : decode cX5_isDigit 7 = .ok (.bipush 57, 2) := by decide +kernel
theorem dX5_isDigit_9 : decode cX5_isDigit 9 = .ok (.if_icmp .gt 7, 3) := by decide +kernel
theorem dX5_isDigit_12 : decode cX5_isDigit 12 = .ok (.iconst 1, 1) := by decide +kernel
theorem dX5_isDigit_13 : decode cX5_isDigit 13 = .ok (.goto 4, 3) := by decide +kernel
theorem dX5_isDigit_16 : decode cX5_isDigit 16 = .ok (.iconst 0, 1) := by decide +kernel
theorem dX5_isDigit_17 : decode cX5_isDigit 17 = .ok (.ireturn, 1) := by decide +kernel
theorem dX5_token_0 : decode cX5_token 0 = .ok (.aload_n 0, 1) := by decide +kernel
theorem dX5_token_1 : decode cX5_token 1 = .ok (.aload_n 0, 1) := by decide +kernel
theorem dX5_token_2 : decode cX5_token 2 = .ok (.getfield 64, 3) := by decide +kernel
theorem dX5_token_5 : decode cX5_token 5 = .ok (.invokevirtual 67, 3) := by decide +kernel
theorem dX5_token_8 : decode cX5_token 8 = .ok (.bipush 32, 2) := by decide +kernel
theorem dX5_token_10 : decode cX5_token 10 = .ok (.if_icmp .ne 16, 3) := by decide +kernel
theorem dX5_token_13 : decode cX5_token 13 = .ok (.aload_n 0, 1) := by decide +kernel
theorem dX5_token_14 : decode cX5_token 14 = .ok (.dup, 1) := by decide +kernel
theorem dX5_token_15 : decode cX5_token 15 = .ok (.getfield 64, 3) := by decide +kernel
theorem dX5_token_18 : decode cX5_token 18 = .ok (.iconst 1, 1) := by decide +kernel
theorem dX5_token_19 : decode cX5_token 19 = .ok (.iadd, 1) := by decide +kernel
theorem dX5_token_20 : decode cX5_token 20 = .ok (.putfield 64, 3) := by decide +kernel
theorem dX5_token_23 : decode cX5_token 23 = .ok (.goto (-23), 3) := by decide +kernel
theorem dX5_token_26 : decode cX5_token 26 = .ok (.aload_n 0, 1) := by decide +kernel
theorem dX5_token_27 : decode cX5_token 27 = .ok (.aload_n 0, 1) := by decide +kernel
theorem dX5_token_28 : decode cX5_token 28 = .ok (.getfield 64, 3) := by decide +kernel
theorem dX5_token_31 : decode cX5_token 31 = .ok (.putfield 71, 3) := by decide +kernel
theorem dX5_token_34 : decode cX5_token 34 = .ok (.aload_n 0, 1) := by decide +kernel
theorem dX5_token_35 : decode cX5_token 35 = .ok (.iconst 0, 1) := by decide +kernel
theorem dX5_token_36 : decode cX5_token 36 = .ok (.putfield 74, 3) := by decide +kernel
theorem dX5_token_39 : decode cX5_token 39 = .ok (.aload_n 0, 1) := by decide +kernel
theorem dX5_token_40 : decode cX5_token 40 = .ok (.aload_n 0, 1) := by decide +kernel
theorem dX5_token_41 : decode cX5_token 41 = .ok (.getfield 64, 3) := by decide +kernel
theorem dX5_token_44 : decode cX5_token 44 = .ok (.invokevirtual 67, 3) := by decide +kernel
theorem dX5_token_47 : decode cX5_token 47 = .ok (.istore_n 1, 1) := by decide +kernel
theorem dX5_token_48 : decode cX5_token 48 = .ok (.iload_n 1, 1) := by decide +kernel
theorem dX5_token_49 : decode cX5_token 49 = .ok (.iconst (-1), 1) := by decide +kernel
theorem dX5_token_50 : decode cX5_token 50 = .ok (.if_icmp .ne 11, 3) := by decide +kernel
theorem dX5_token_53 : decode cX5_token 53 = .ok (.aload_n 0, 1) := by decide +kernel
theorem dX5_token_54 : decode cX5_token 54 = .ok (.iconst 0, 1) := by decide +kernel
theorem dX5_token_55 : decode cX5_token 55 = .ok (.putfield 77, 3) := by decide +kernel
theorem dX5_token_58 : decode cX5_token 58 = .ok (.goto 243, 3) := by decide +kernel
theorem dX5_token_61 : decode cX5_token 61 = .ok (.iload_n 1, 1) := by decide +kernel
theorem dX5_token_62 : decode cX5_token 62 = .ok (.invokestatic 80, 3) := by decide +kernel
theorem dX5_token_65 : decode cX5_token 65 = .ok (.ifCond .eq 105, 3) := by decide +kernel
theorem dX5_token_68 : decode cX5_token 68 = .ok (.aload_n 0, 1) := by decide +kernel
theorem dX5_token_69 : decode cX5_token 69 = .ok (.lconst 0, 1) := by decide +kernel
theorem dX5_token_70 : decode cX5_token 70 = .ok (.putfield 84, 3) := by decide +kernel
theorem dX5_token_73 : decode cX5_token 73 = .ok (.aload_n 0, 1) := by decide +kernel
theorem dX5_token_74 : decode cX5_token 74 = .ok (.aload_n 0, 1) := by decide +kernel
theorem dX5_token_75 : decode cX5_token 75 = .ok (.getfield 64, 3) := by decide +kernel
theorem dX5_token_78 : decode cX5_token 78 = .ok (.invokevirtual 67, 3) := by decide +kernel
theorem dX5_token_81 : decode cX5_token 81 = .ok (.invokestatic 80, 3) := by decide +kernel
theorem dX5_token_84 : decode cX5_token 84 = .ok (.ifCond .eq 65, 3) := by decide +kernel
theorem dX5_token_87 : decode cX5_token 87 = .ok (.aload_n 0, 1) := by decide +kernel
theorem dX5_token_88 : decode cX5_token 88 = .ok (.aload_n 0, 1) := by decide +kernel
theorem dX5_token_89 : decode cX5_token 89 = .ok (.getfield 74, 3) := by decide +kernel
theorem dX5_token_92 : decode cX5_token 92 = .ok (.bipush 7, 2) := by decide +kernel
theorem dX5_token_94 : decode cX5_token 94 = .ok (.if_icmp .ge 28, 3) := by decide +kernel
theorem dX5_token_97 : decode cX5_token 97 = .ok (.ldc2_w 88, 3) := by decide +kernel
theorem dX5_token_100 : decode cX5_token 100 = .ok (.aload_n 0, 1) := by decide +kernel
theorem dX5_token_101 : decode cX5_token 101 = .ok (.getfield 84, 3) := by decide +kernel
theorem dX5_token_104 : decode cX5_token 104 = .ok (.lmul, 1) := by decide +kernel
theorem dX5_token_105 : decode cX5_token 105 = .ok (.aload_n 0, 1) := by decide +kernel
theorem dX5_token_106 : decode cX5_token 106 = .ok (.aload_n 0, 1) := by decide +kernel
theorem dX5_token_107 : decode cX5_token 107 = .ok (.getfield 64, 3) := by decide +kernel
theorem dX5_token_110 : decode cX5_token 110 = .ok (.invokevirtual 67, 3) := by decide +kernel
theorem dX5_token_113 : decode cX5_token 113 = .ok (.i2l, 1) := by decide +kernel
theorem dX5_token_114 : decode cX5_token 114 = .ok (.ladd, 1) := by decide +kernel
theorem dX5_token_115 : decode cX5_token 115 = .ok (.ldc2_w 90, 3) := by decide +kernel
theorem dX5_token_118 : decode cX5_token 118 = .ok (.lsub, 1) := by decide +kernel
theorem dX5_token_119 : decode cX5_token 119 = .ok (.goto 4, 3) := by decide +kernel
theorem dX5_token_122 : decode cX5_token 122 = .ok (.lconst 0, 1) := by decide +kernel
theorem dX5_token_123 : decode cX5_token 123 = .ok (.putfield 84, 3) := by decide +kernel
theorem dX5_token_126 : decode cX5_token 126 = .ok (.aload_n 0, 1) := by decide +kernel
theorem dX5_token_127 : decode cX5_token 127 = .ok (.dup, 1) := by decide +kernel
theorem dX5_token_128 : decode cX5_token 128 = .ok (.getfield 64, 3) := by decide +kernel
theorem dX5_token_131 : decode cX5_token 131 = .ok (.iconst 1, 1) := by decide +kernel
theorem dX5_token_132 : decode cX5_token 132 = .ok (.iadd, 1) := by decide +kernel
theorem dX5_token_133 : decode cX5_token 133 = .ok (.putfield 64, 3) := by decide +kernel
theorem dX5_token_136 : decode cX5_token 136 = .ok (.aload_n 0, 1) := by decide +kernel
theorem dX5_token_137 : decode cX5_token 137 = .ok (.dup, 1) := by decide +kernel
theorem dX5_token_138 : decode cX5_token 138 = .ok (.getfield 74, 3) := by decide +kernel
theorem dX5_token_141 : decode cX5_token 141 = .ok (.iconst 1, 1) := by decide +kernel
theorem dX5_token_142 : decode cX5_token 142 = .ok (.iadd, 1) := by decide +kernel
theorem dX5_token_143 : decode cX5_token 143 = .ok (.putfield 74, 3) := by decide +kernel
theorem dX5_token_146 : decode cX5_token 146 = .ok (.goto (-73), 3) := by decide +kernel
theorem dX5_token_149 : decode cX5_token 149 = .ok (.aload_n 0, 1) := by decide +kernel
theorem dX5_token_150 : decode cX5_token 150 = .ok (.aload_n 0, 1) := by decide +kernel
theorem dX5_token_151 : decode cX5_token 151 = .ok (.getfield 74, 3) := by decide +kernel
theorem dX5_token_154 : decode cX5_token 154 = .ok (.bipush 7, 2) := by decide +kernel
theorem dX5_token_156 : decode cX5_token 156 = .ok (.if_icmp .le 7, 3) := by decide +kernel
theorem dX5_token_159 : decode cX5_token 159 = .ok (.iconst 4, 1) := by decide +kernel
theorem dX5_token_160 : decode cX5_token 160 = .ok (.goto 4, 3) := by decide +kernel
theorem dX5_token_163 : decode cX5_token 163 = .ok (.iconst 1, 1) := by decide +kernel
theorem dX5_token_164 : decode cX5_token 164 = .ok (.putfield 77, 3) := by decide +kernel
theorem dX5_token_167 : decode cX5_token 167 = .ok (.goto 134, 3) := by decide +kernel
theorem dX5_token_170 : decode cX5_token 170 = .ok (.iload_n 1, 1) := by decide +kernel
theorem dX5_token_171 : decode cX5_token 171 = .ok (.invokestatic 92, 3) := by decide +kernel
theorem dX5_token_174 : decode cX5_token 174 = .ok (.ifCond .eq 102, 3) := by decide +kernel
theorem dX5_token_177 : decode cX5_token 177 = .ok (.aload_n 0, 1) := by decide +kernel
theorem dX5_token_178 : decode cX5_token 178 = .ok (.iconst 0, 1) := by decide +kernel
theorem dX5_token_179 : decode cX5_token 179 = .ok (.putfield 95, 3) := by decide +kernel
theorem dX5_token_182 : decode cX5_token 182 = .ok (.aload_n 0, 1) := by decide +kernel
theorem dX5_token_183 : decode cX5_token 183 = .ok (.aload_n 0, 1) := by decide +kernel
theorem dX5_token_184 : decode cX5_token 184 = .ok (.getfield 64, 3) := by decide +kernel
theorem dX5_token_187 : decode cX5_token 187 = .ok (.invokevirtual 67, 3) := by decide +kernel
theorem dX5_token_190 : decode cX5_token 190 = .ok (.invokestatic 92, 3) := by decide +kernel
theorem dX5_token_193 : decode cX5_token 193 = .ok (.ifCond .eq 62, 3) := by decide +kernel
theorem dX5_token_196 : decode cX5_token 196 = .ok (.aload_n 0, 1) := by decide +kernel
theorem dX5_token_197 : decode cX5_token 197 = .ok (.aload_n 0, 1) := by decide +kernel
theorem dX5_token_198 : decode cX5_token 198 = .ok (.getfield 74, 3) := by decide +kernel
theorem dX5_token_201 : decode cX5_token 201 = .ok (.bipush 7, 2) := by decide +kernel
theorem dX5_token_203 : decode cX5_token 203 = .ok (.if_icmp .ge 25, 3) := by decide +kernel
theorem dX5_token_206 : decode cX5_token 206 = .ok (.bipush 10, 2) := by decide +kernel
theorem dX5_token_208 : decode cX5_token 208 = .ok (.aload_n 0, 1) := by decide +kernel
theorem dX5_token_209 : decode cX5_token 209 = .ok (.getfield 95, 3) := by decide +kernel
theorem dX5_token_212 : decode cX5_token 212 = .ok (.imul, 1) := by decide +kernel
theorem dX5_token_213 : decode cX5_token 213 = .ok (.aload_n 0, 1) := by decide +kernel
theorem dX5_token_214 : decode cX5_token 214 = .ok (.aload_n 0, 1) := by decide +kernel
theorem dX5_token_215 : decode cX5_token 215 = .ok (.getfield 64, 3) := by decide +kernel
theorem dX5_token_218 : decode cX5_token 218 = .ok (.invokevirtual 67, 3) := by decide +kernel
theorem dX5_token_221 : decode cX5_token 221 = .ok (.iadd, 1) := by decide +kernel
theorem dX5_token_222 : decode cX5_token 222 = .ok (.bipush 48, 2) := by decide +kernel
theorem dX5_token_224 : decode cX5_token 224 = .ok (.isub, 1) := by decide +kernel
theorem dX5_token_225 : decode cX5_token 225 = .ok (.goto 4, 3) := by decide +kernel
theorem dX5_token_228 : decode cX5_token 228 = .ok (.iconst 0, 1) := by decide +kernel
theorem dX5_token_229 : decode cX5_token 229 = .ok (.putfield 95, 3) := by decide +kernel
theorem dX5_token_232 : decode cX5_token 232 = .ok (.aload_n 0, 1) := by decide +kernel
theorem dX5_token_233 : decode cX5_token 233 = .ok (.dup, 1) := by decide +kernel
theorem dX5_token_234 : decode cX5_token 234 = .ok (.getfield 64, 3) := by decide +kernel
theorem dX5_token_237 : decode cX5_token 237 = .ok (.iconst 1, 1) := by decide +kernel
theorem dX5_token_238 : decode cX5_token 238 = .ok (.iadd, 1) := by decide +kernel
theorem dX5_token_239 : decode cX5_token 239 = .ok (.putfield 64, 3) := by decide +kernel
theorem dX5_token_242 : decode cX5_token 242 = .ok (.aload_n 0, 1) := by decide +kernel
theorem dX5_token_243 : decode cX5_token 243 = .ok (.dup, 1) := by decide +kernel
theorem dX5_token_244 : decode cX5_token 244 = .ok (.getfield 74, 3) := by decide +kernel
theorem dX5_token_247 : decode cX5_token 247 = .ok (.iconst 1, 1) := by decide +kernel
theorem dX5_token_248 : decode cX5_token 248 = .ok (.iadd, 1) := by decide +kernel
theorem dX5_token_249 : decode cX5_token 249 = .ok (.putfield 74, 3) := by decide +kernel
theorem dX5_token_252 : decode cX5_token 252 = .ok (.goto (-70), 3) := by decide +kernel
theorem dX5_token_255 : decode cX5_token 255 = .ok (.aload_n 0, 1) := by decide +kernel
theorem dX5_token_256 : decode cX5_token 256 = .ok (.aload_n 0, 1) := by decide +kernel
theorem dX5_token_257 : decode cX5_token 257 = .ok (.getfield 74, 3) := by decide +kernel
theorem dX5_token_260 : decode cX5_token 260 = .ok (.bipush 7, 2) := by decide +kernel
theorem dX5_token_262 : decode cX5_token 262 = .ok (.if_icmp .le 7, 3) := by decide +kernel
theorem dX5_token_265 : decode cX5_token 265 = .ok (.iconst 4, 1) := by decide +kernel
theorem dX5_token_266 : decode cX5_token 266 = .ok (.goto 4, 3) := by decide +kernel
theorem dX5_token_269 : decode cX5_token 269 = .ok (.iconst 2, 1) := by decide +kernel
theorem dX5_token_270 : decode cX5_token 270 = .ok (.putfield 77, 3) := by decide +kernel
theorem dX5_token_273 : decode cX5_token 273 = .ok (.goto 28, 3) := by decide +kernel
theorem dX5_token_276 : decode cX5_token 276 = .ok (.aload_n 0, 1) := by decide +kernel
theorem dX5_token_277 : decode cX5_token 277 = .ok (.iload_n 1, 1) := by decide +kernel
theorem dX5_token_278 : decode cX5_token 278 = .ok (.bipush 59, 2) := by decide +kernel
theorem dX5_token_280 : decode cX5_token 280 = .ok (.if_icmp .ne 7, 3) := by decide +kernel
theorem dX5_token_283 : decode cX5_token 283 = .ok (.iconst 3, 1) := by decide +kernel
theorem dX5_token_284 : decode cX5_token 284 = .ok (.goto 4, 3) := by decide +kernel
theorem dX5_token_287 : decode cX5_token 287 = .ok (.iconst 4, 1) := by decide +kernel
theorem dX5_token_288 : decode cX5_token 288 = .ok (.putfield 77, 3) := by decide +kernel
theorem dX5_token_291 : decode cX5_token 291 = .ok (.aload_n 0, 1) := by decide +kernel
theorem dX5_token_292 : decode cX5_token 292 = .ok (.dup, 1) := by decide +kernel
theorem dX5_token_293 : decode cX5_token 293 = .ok (.getfield 64, 3) := by decide +kernel
theorem dX5_token_296 : decode cX5_token 296 = .ok (.iconst 1, 1) := by decide +kernel
theorem dX5_token_297 : decode cX5_token 297 = .ok (.iadd, 1) := by decide +kernel
theorem dX5_token_298 : decode cX5_token 298 = .ok (.putfield 64, 3) := by decide +kernel
theorem dX5_token_301 : decode cX5_token 301 = .ok (.return_, 1) := by decide +kernel
theorem dX5_fails_0 : decode cX5_fails 0 = .ok (.aload_n 0, 1) := by decide +kernel
theorem dX5_fails_1 : decode cX5_fails 1 = .ok (.getfield 98, 3) := by decide +kernel
theorem dX5_fails_4 : decode cX5_fails 4 = .ok (.ifCond .ne 16, 3) := by decide +kernel
theorem dX5_fails_7 : decode cX5_fails 7 = .ok (.aload_n 0, 1) := by decide +kernel
theorem dX5_fails_8 : decode cX5_fails 8 = .ok (.iload_n 1, 1) := by decide +kernel
theorem dX5_fails_9 : decode cX5_fails 9 = .ok (.putfield 98, 3) := by decide +kernel
theorem dX5_fails_12 : decode cX5_fails 12 = .ok (.aload_n 0, 1) := by decide +kernel
theorem dX5_fails_13 : decode cX5_fails 13 = .ok (.aload_n 0, 1) := by decide +kernel
theorem dX5_fails_14 : decode cX5_fails 14 = .ok (.getfield 71, 3) := by decide +kernel
theorem dX5_fails_17 : decode cX5_fails 17 = .ok (.putfield 101, 3) := by decide +kernel
theorem dX5_fails_20 : decode cX5_fails 20 = .ok (.return_, 1) := by decide +kernel
theorem dX5_goesOn_0 : decode cX5_goesOn 0 = .ok (.aload_n 0, 1) := by decide +kernel
theorem dX5_goesOn_1 : decode cX5_goesOn 1 = .ok (.getfield 98, 3) := by decide +kernel
theorem dX5_goesOn_4 : decode cX5_goesOn 4 = .ok (.ifCond .ne 7, 3) := by decide +kernel
theorem dX5_goesOn_7 : decode cX5_goesOn 7 = .ok (.aload_n 0, 1) := by decide +kernel
theorem dX5_goesOn_8 : decode cX5_goesOn 8 = .ok (.invokevirtual 104, 3) := by decide +kernel
theorem dX5_goesOn_11 : decode cX5_goesOn 11 = .ok (.return_, 1) := by decide +kernel
theorem dX5_spelled_0 : decode cX5_spelled 0 = .ok (.iload_n 0, 1) := by decide +kernel
theorem dX5_spelled_1 : decode cX5_spelled 1 = .ok (.i2l, 1) := by decide +kernel
theorem dX5_spelled_2 : decode cX5_spelled 2 = .ok (.lstore 7, 2) := by decide +kernel
theorem dX5_spelled_4 : decode cX5_spelled 4 = .ok (.ldc2_w 88, 3) := by decide +kernel
theorem dX5_spelled_7 : decode cX5_spelled 7 = .ok (.lload 7, 2) := by decide +kernel
theorem dX5_spelled_9 : decode cX5_spelled 9 = .ok (.lmul, 1) := by decide +kernel
theorem dX5_spelled_10 : decode cX5_spelled 10 = .ok (.iload_n 1, 1) := by decide +kernel
theorem dX5_spelled_11 : decode cX5_spelled 11 = .ok (.i2l, 1) := by decide +kernel
theorem dX5_spelled_12 : decode cX5_spelled 12 = .ok (.ladd, 1) := by decide +kernel
theorem dX5_spelled_13 : decode cX5_spelled 13 = .ok (.lstore 7, 2) := by decide +kernel
theorem dX5_spelled_15 : decode cX5_spelled 15 = .ok (.ldc2_w 88, 3) := by decide +kernel
theorem dX5_spelled_18 : decode cX5_spelled 18 = .ok (.lload 7, 2) := by decide +kernel
theorem dX5_spelled_20 : decode cX5_spelled 20 = .ok (.lmul, 1) := by decide +kernel
theorem dX5_spelled_21 : decode cX5_spelled 21 = .ok (.iload_n 2, 1) := by decide +kernel
theorem dX5_spelled_22 : decode cX5_spelled 22 = .ok (.i2l, 1) := by decide +kernel
theorem dX5_spelled_23 : decode cX5_spelled 23 = .ok (.ladd, 1) := by decide +kernel
theorem dX5_spelled_24 : decode cX5_spelled 24 = .ok (.lstore 7, 2) := by decide +kernel
theorem dX5_spelled_26 : decode cX5_spelled 26 = .ok (.iload_n 3, 1) := by decide +kernel
theorem dX5_spelled_27 : decode cX5_spelled 27 = .ok (.ifCond .ne 8, 3) := by decide +kernel
theorem dX5_spelled_30 : decode cX5_spelled 30 = .ok (.lload 7, 2) := by decide +kernel
theorem dX5_spelled_32 : decode cX5_spelled 32 = .ok (.goto 12, 3) := by decide +kernel
theorem dX5_spelled_35 : decode cX5_spelled 35 = .ok (.ldc2_w 88, 3) := by decide +kernel
theorem dX5_spelled_38 : decode cX5_spelled 38 = .ok (.lload 7, 2) := by decide +kernel
theorem dX5_spelled_40 : decode cX5_spelled 40 = .ok (.lmul, 1) := by decide +kernel
theorem dX5_spelled_41 : decode cX5_spelled 41 = .ok (.iload_n 3, 1) := by decide +kernel
theorem dX5_spelled_42 : decode cX5_spelled 42 = .ok (.i2l, 1) := by decide +kernel
theorem dX5_spelled_43 : decode cX5_spelled 43 = .ok (.ladd, 1) := by decide +kernel
theorem dX5_spelled_44 : decode cX5_spelled 44 = .ok (.lstore 7, 2) := by decide +kernel
theorem dX5_spelled_46 : decode cX5_spelled 46 = .ok (.iload 4, 2) := by decide +kernel
theorem dX5_spelled_48 : decode cX5_spelled 48 = .ok (.ifCond .ne 8, 3) := by decide +kernel
theorem dX5_spelled_51 : decode cX5_spelled 51 = .ok (.lload 7, 2) := by decide +kernel
theorem dX5_spelled_53 : decode cX5_spelled 53 = .ok (.goto 13, 3) := by decide +kernel
theorem dX5_spelled_56 : decode cX5_spelled 56 = .ok (.ldc2_w 88, 3) := by decide +kernel
theorem dX5_spelled_59 : decode cX5_spelled 59 = .ok (.lload 7, 2) := by decide +kernel
theorem dX5_spelled_61 : decode cX5_spelled 61 = .ok (.lmul, 1) := by decide +kernel
theorem dX5_spelled_62 : decode cX5_spelled 62 = .ok (.iload 4, 2) := by decide +kernel
theorem dX5_spelled_64 : decode cX5_spelled 64 = .ok (.i2l, 1) := by decide +kernel
theorem dX5_spelled_65 : decode cX5_spelled 65 = .ok (.ladd, 1) := by decide +kernel
theorem dX5_spelled_66 : decode cX5_spelled 66 = .ok (.lstore 7, 2) := by decide +kernel
theorem dX5_spelled_68 : decode cX5_spelled 68 = .ok (.iload 5, 2) := by decide +kernel
theorem dX5_spelled_70 : decode cX5_spelled 70 = .ok (.ifCond .ne 8, 3) := by decide +kernel
theorem dX5_spelled_73 : decode cX5_spelled 73 = .ok (.lload 7, 2) := by decide +kernel
theorem dX5_spelled_75 : decode cX5_spelled 75 = .ok (.goto 13, 3) := by decide +kernel
theorem dX5_spelled_78 : decode cX5_spelled 78 = .ok (.ldc2_w 88, 3) := by decide +kernel
theorem dX5_spelled_81 : decode cX5_spelled 81 = .ok (.lload 7, 2) := by decide +kernel
theorem dX5_spelled_83 : decode cX5_spelled 83 = .ok (.lmul, 1) := by decide +kernel
theorem dX5_spelled_84 : decode cX5_spelled 84 = .ok (.iload 5, 2) := by decide +kernel
theorem dX5_spelled_86 : decode cX5_spelled 86 = .ok (.i2l, 1) := by decide +kernel
theorem dX5_spelled_87 : decode cX5_spelled 87 = .ok (.ladd, 1) := by decide +kernel
theorem dX5_spelled_88 : decode cX5_spelled 88 = .ok (.lstore 7, 2) := by decide +kernel
theorem dX5_spelled_90 : decode cX5_spelled 90 = .ok (.iload 6, 2) := by decide +kernel
theorem dX5_spelled_92 : decode cX5_spelled 92 = .ok (.ifCond .ne 8, 3) := by decide +kernel
theorem dX5_spelled_95 : decode cX5_spelled 95 = .ok (.lload 7, 2) := by decide +kernel
theorem dX5_spelled_97 : decode cX5_spelled 97 = .ok (.goto 13, 3) := by decide +kernel
theorem dX5_spelled_100 : decode cX5_spelled 100 = .ok (.ldc2_w 88, 3) := by decide +kernel
theorem dX5_spelled_103 : decode cX5_spelled 103 = .ok (.lload 7, 2) := by decide +kernel
theorem dX5_spelled_105 : decode cX5_spelled 105 = .ok (.lmul, 1) := by decide +kernel
theorem dX5_spelled_106 : decode cX5_spelled 106 = .ok (.iload 6, 2) := by decide +kernel
theorem dX5_spelled_108 : decode cX5_spelled 108 = .ok (.i2l, 1) := by decide +kernel
theorem dX5_spelled_109 : decode cX5_spelled 109 = .ok (.ladd, 1) := by decide +kernel
theorem dX5_spelled_110 : decode cX5_spelled 110 = .ok (.lreturn, 1) := by decide +kernel
theorem dX5_isWord_0 : decode cX5_isWord 0 = .ok (.aload_n 0, 1) := by decide +kernel
theorem dX5_isWord_1 : decode cX5_isWord 1 = .ok (.getfield 98, 3) := by decide +kernel
theorem dX5_isWord_4 : decode cX5_isWord 4 = .ok (.ifCond .ne 24, 3) := by decide +kernel
theorem dX5_isWord_7 : decode cX5_isWord 7 = .ok (.aload_n 0, 1) := by decide +kernel
theorem dX5_isWord_8 : decode cX5_isWord 8 = .ok (.getfield 77, 3) := by decide +kernel
theorem dX5_isWord_11 : decode cX5_isWord 11 = .ok (.iconst 1, 1) := by decide +kernel
theorem dX5_isWord_12 : decode cX5_isWord 12 = .ok (.if_icmp .ne 16, 3) := by decide +kernel
theorem dX5_isWord_15 : decode cX5_isWord 15 = .ok (.aload_n 0, 1) := by decide +kernel
theorem dX5_isWord_16 : decode cX5_isWord 16 = .ok (.getfield 84, 3) := by decide +kernel
theorem dX5_isWord_19 : decode cX5_isWord 19 = .ok (.lload_n 1, 1) := by decide +kernel
theorem dX5_isWord_20 : decode cX5_isWord 20 = .ok (.lcmp, 1) := by decide +kernel
theorem dX5_isWord_21 : decode cX5_isWord 21 = .ok (.ifCond .ne 7, 3) := by decide +kernel
theorem dX5_isWord_24 : decode cX5_isWord 24 = .ok (.iconst 1, 1) := by decide +kernel
theorem dX5_isWord_25 : decode cX5_isWord 25 = .ok (.goto 4, 3) := by decide +kernel
theorem dX5_isWord_28 : decode cX5_isWord 28 = .ok (.iconst 0, 1) := by decide +kernel
theorem dX5_isWord_29 : decode cX5_isWord 29 = .ok (.ireturn, 1) := by decide +kernel
theorem dX5_shipWord_0 : decode cX5_shipWord 0 = .ok (.bipush 19, 2) := by decide +kernel
theorem dX5_shipWord_2 : decode cX5_shipWord 2 = .ok (.bipush 8, 2) := by decide +kernel
theorem dX5_shipWord_4 : decode cX5_shipWord 4 = .ok (.bipush 9, 2) := by decide +kernel
theorem dX5_shipWord_6 : decode cX5_shipWord 6 = .ok (.bipush 16, 2) := by decide +kernel
theorem dX5_shipWord_8 : decode cX5_shipWord 8 = .ok (.iconst 0, 1) := by decide +kernel
theorem dX5_shipWord_9 : decode cX5_shipWord 9 = .ok (.iconst 0, 1) := by decide +kernel
theorem dX5_shipWord_10 : decode cX5_shipWord 10 = .ok (.iconst 0, 1) := by decide +kernel
theorem dX5_shipWord_11 : decode cX5_shipWord 11 = .ok (.invokestatic 107, 3) := by decide +kernel
theorem dX5_shipWord_14 : decode cX5_shipWord 14 = .ok (.lreturn, 1) := by decide +kernel
theorem dX5_tonsWord_0 : decode cX5_tonsWord 0 = .ok (.bipush 20, 2) := by decide +kernel
theorem dX5_tonsWord_2 : decode cX5_tonsWord 2 = .ok (.bipush 15, 2) := by decide +kernel
theorem dX5_tonsWord_4 : decode cX5_tonsWord 4 = .ok (.bipush 14, 2) := by decide +kernel
theorem dX5_tonsWord_6 : decode cX5_tonsWord 6 = .ok (.bipush 19, 2) := by decide +kernel
theorem dX5_tonsWord_8 : decode cX5_tonsWord 8 = .ok (.iconst 0, 1) := by decide +kernel
theorem dX5_tonsWord_9 : decode cX5_tonsWord 9 = .ok (.iconst 0, 1) := by decide +kernel
theorem dX5_tonsWord_10 : decode cX5_tonsWord 10 = .ok (.iconst 0, 1) := by decide +kernel
theorem dX5_tonsWord_11 : decode cX5_tonsWord 11 = .ok (.invokestatic 107, 3) := by decide +kernel
theorem dX5_tonsWord_14 : decode cX5_tonsWord 14 = .ok (.lreturn, 1) := by decide +kernel
theorem dX5_faultWord_0 : decode cX5_faultWord 0 = .ok (.bipush 6, 2) := by decide +kernel
theorem dX5_faultWord_2 : decode cX5_faultWord 2 = .ok (.iconst 1, 1) := by decide +kernel
theorem dX5_faultWord_3 : decode cX5_faultWord 3 = .ok (.bipush 21, 2) := by decide +kernel
theorem dX5_faultWord_5 : decode cX5_faultWord 5 = .ok (.bipush 12, 2) := by decide +kernel
theorem dX5_faultWord_7 : decode cX5_faultWord 7 = .ok (.bipush 20, 2) := by decide +kernel
theorem dX5_faultWord_9 : decode cX5_faultWord 9 = .ok (.iconst 0, 1) := by decide +kernel
theorem dX5_faultWord_10 : decode cX5_faultWord 10 = .ok (.iconst 0, 1) := by decide +kernel
theorem dX5_faultWord_11 : decode cX5_faultWord 11 = .ok (.invokestatic 107, 3) := by decide +kernel
theorem dX5_faultWord_14 : decode cX5_faultWord 14 = .ok (.lreturn, 1) := by decide +kernel
theorem dX5_hullWord_0 : decode cX5_hullWord 0 = .ok (.bipush 8, 2) := by decide +kernel
theorem dX5_hullWord_2 : decode cX5_hullWord 2 = .ok (.bipush 21, 2) := by decide +kernel
theorem dX5_hullWord_4 : decode cX5_hullWord 4 = .ok (.bipush 12, 2) := by decide +kernel
theorem dX5_hullWord_6 : decode cX5_hullWord 6 = .ok (.bipush 12, 2) := by decide +kernel
theorem dX5_hullWord_8 : decode cX5_hullWord 8 = .ok (.iconst 0, 1) := by decide +kernel
theorem dX5_hullWord_9 : decode cX5_hullWord 9 = .ok (.iconst 0, 1) := by decide +kernel
theorem dX5_hullWord_10 : decode cX5_hullWord 10 = .ok (.iconst 0, 1) := by decide +kernel
theorem dX5_hullWord_11 : decode cX5_hullWord 11 = .ok (.invokestatic 107, 3) := by decide +kernel
theorem dX5_hullWord_14 : decode cX5_hullWord 14 = .ok (.lreturn, 1) := by decide +kernel
theorem dX5_valueWord_0 : decode cX5_valueWord 0 = .ok (.bipush 22, 2) := by decide +kernel
theorem dX5_valueWord_2 : decode cX5_valueWord 2 = .ok (.iconst 1, 1) := by decide +kernel
theorem dX5_valueWord_3 : decode cX5_valueWord 3 = .ok (.bipush 12, 2) := by decide +kernel
theorem dX5_valueWord_5 : decode cX5_valueWord 5 = .ok (.bipush 21, 2) := by decide +kernel
theorem dX5_valueWord_7 : decode cX5_valueWord 7 = .ok (.iconst 5, 1) := by decide +kernel
theorem dX5_valueWord_8 : decode cX5_valueWord 8 = .ok (.iconst 0, 1) := by decide +kernel
theorem dX5_valueWord_9 : decode cX5_valueWord 9 = .ok (.iconst 0, 1) := by decide +kernel
theorem dX5_valueWord_10 : decode cX5_valueWord 10 = .ok (.invokestatic 107, 3) := by decide +kernel
theorem dX5_valueWord_13 : decode cX5_valueWord 13 = .ok (.lreturn, 1) := by decide +kernel
theorem dX5_clauseWord_0 : decode cX5_clauseWord 0 = .ok (.iconst 3, 1) := by decide +kernel
theorem dX5_clauseWord_1 : decode cX5_clauseWord 1 = .ok (.bipush 12, 2) := by decide +kernel
theorem dX5_clauseWord_3 : decode cX5_clauseWord 3 = .ok (.iconst 1, 1) := by decide +kernel
theorem dX5_clauseWord_4 : decode cX5_clauseWord 4 = .ok (.bipush 21, 2) := by decide +kernel
theorem dX5_clauseWord_6 : decode cX5_clauseWord 6 = .ok (.bipush 19, 2) := by decide +kernel
theorem dX5_clauseWord_8 : decode cX5_clauseWord 8 = .ok (.iconst 5, 1) := by decide +kernel
theorem dX5_clauseWord_9 : decode cX5_clauseWord 9 = .ok (.iconst 0, 1) := by decide +kernel
theorem dX5_clauseWord_10 : decode cX5_clauseWord 10 = .ok (.invokestatic 107, 3) := by decide +kernel
theorem dX5_clauseWord_13 : decode cX5_clauseWord 13 = .ok (.lreturn, 1) := by decide +kernel
theorem dX5_barredWord_0 : decode cX5_barredWord 0 = .ok (.iconst 2, 1) := by decide +kernel
theorem dX5_barredWord_1 : decode cX5_barredWord 1 = .ok (.iconst 1, 1) := by decide +kernel
theorem dX5_barredWord_2 : decode cX5_barredWord 2 = .ok (.bipush 18, 2) := by decide +kernel
theorem dX5_barredWord_4 : decode cX5_barredWord 4 = .ok (.bipush 18, 2) := by decide +kernel
theorem dX5_barredWord_6 : decode cX5_barredWord 6 = .ok (.iconst 5, 1) := by decide +kernel
theorem dX5_barredWord_7 : decode cX5_barredWord 7 = .ok (.iconst 4, 1) := by decide +kernel
theorem dX5_barredWord_8 : decode cX5_barredWord 8 = .ok (.iconst 0, 1) := by decide +kernel
theorem dX5_barredWord_9 : decode cX5_barredWord 9 = .ok (.invokestatic 107, 3) := by decide +kernel
theorem dX5_barredWord_12 : decode cX5_barredWord 12 = .ok (.lreturn, 1) := by decide +kernel
theorem dX5_goodsWord_0 : decode cX5_goodsWord 0 = .ok (.bipush 7, 2) := by decide +kernel
theorem dX5_goodsWord_2 : decode cX5_goodsWord 2 = .ok (.bipush 15, 2) := by decide +kernel
theorem dX5_goodsWord_4 : decode cX5_goodsWord 4 = .ok (.bipush 15, 2) := by decide +kernel
theorem dX5_goodsWord_6 : decode cX5_goodsWord 6 = .ok (.iconst 4, 1) := by decide +kernel
theorem dX5_goodsWord_7 : decode cX5_goodsWord 7 = .ok (.bipush 19, 2) := by decide +kernel
theorem dX5_goodsWord_9 : decode cX5_goodsWord 9 = .ok (.iconst 0, 1) := by decide +kernel
theorem dX5_goodsWord_10 : decode cX5_goodsWord 10 = .ok (.iconst 0, 1) := by decide +kernel
theorem dX5_goodsWord_11 : decode cX5_goodsWord 11 = .ok (.invokestatic 107, 3) := by decide +kernel
theorem dX5_goodsWord_14 : decode cX5_goodsWord 14 = .ok (.lreturn, 1) := by decide +kernel
theorem dX5_personsWord_0 : decode cX5_personsWord 0 = .ok (.bipush 16, 2) := by decide +kernel
theorem dX5_personsWord_2 : decode cX5_personsWord 2 = .ok (.iconst 5, 1) := by decide +kernel
theorem dX5_personsWord_3 : decode cX5_personsWord 3 = .ok (.bipush 18, 2) := by decide +kernel
theorem dX5_personsWord_5 : decode cX5_personsWord 5 = .ok (.bipush 19, 2) := by decide +kernel
theorem dX5_personsWord_7 : decode cX5_personsWord 7 = .ok (.bipush 15, 2) := by decide +kernel
theorem dX5_personsWord_9 : decode cX5_personsWord 9 = .ok (.bipush 14, 2) := by decide +kernel
theorem dX5_personsWord_11 : decode cX5_personsWord 11 = .ok (.bipush 19, 2) := by decide +kernel
theorem dX5_personsWord_13 : decode cX5_personsWord 13 = .ok (.invokestatic 107, 3) := by decide +kernel
theorem dX5_personsWord_16 : decode cX5_personsWord 16 = .ok (.lreturn, 1) := by decide +kernel
theorem dX5_othersWord_0 : decode cX5_othersWord 0 = .ok (.bipush 15, 2) := by decide +kernel
theorem dX5_othersWord_2 : decode cX5_othersWord 2 = .ok (.bipush 20, 2) := by decide +kernel
theorem dX5_othersWord_4 : decode cX5_othersWord 4 = .ok (.bipush 8, 2) := by decide +kernel
theorem dX5_othersWord_6 : decode cX5_othersWord 6 = .ok (.iconst 5, 1) := by decide +kernel
theorem dX5_othersWord_7 : decode cX5_othersWord 7 = .ok (.bipush 18, 2) := by decide +kernel
theorem dX5_othersWord_9 : decode cX5_othersWord 9 = .ok (.bipush 19, 2) := by decide +kernel
theorem dX5_othersWord_11 : decode cX5_othersWord 11 = .ok (.iconst 0, 1) := by decide +kernel
theorem dX5_othersWord_12 : decode cX5_othersWord 12 = .ok (.invokestatic 107, 3) := by decide +kernel
theorem dX5_othersWord_15 : decode cX5_othersWord 15 = .ok (.lreturn, 1) := by decide +kernel
theorem dX5_dayWord_0 : decode cX5_dayWord 0 = .ok (.iconst 4, 1) := by decide +kernel
theorem dX5_dayWord_1 : decode cX5_dayWord 1 = .ok (.iconst 1, 1) := by decide +kernel
theorem dX5_dayWord_2 : decode cX5_dayWord 2 = .ok (.bipush 25, 2) := by decide +kernel
theorem dX5_dayWord_4 : decode cX5_dayWord 4 = .ok (.iconst 0, 1) := by decide +kernel
theorem dX5_dayWord_5 : decode cX5_dayWord 5 = .ok (.iconst 0, 1) := by decide +kernel
theorem dX5_dayWord_6 : decode cX5_dayWord 6 = .ok (.iconst 0, 1) := by decide +kernel
theorem dX5_dayWord_7 : decode cX5_dayWord 7 = .ok (.iconst 0, 1) := by decide +kernel
theorem dX5_dayWord_8 : decode cX5_dayWord 8 = .ok (.invokestatic 107, 3) := by decide +kernel
theorem dX5_dayWord_11 : decode cX5_dayWord 11 = .ok (.lreturn, 1) := by decide +kernel
theorem dX5_aboutWord_0 : decode cX5_aboutWord 0 = .ok (.iload_n 0, 1) := by decide +kernel
theorem dX5_aboutWord_1 : decode cX5_aboutWord 1 = .ok (.tableswitch 141 2 8 #[43, 57, 72, 87, 100, 115, 129], 43) := by decide +kernel
theorem dX5_aboutWord_44 : decode cX5_aboutWord 44 = .ok (.iconst 5, 1) := by decide +kernel
theorem dX5_aboutWord_45 : decode cX5_aboutWord 45 = .ok (.bipush 17, 2) := by decide +kernel
theorem dX5_aboutWord_47 : decode cX5_aboutWord 47 = .ok (.bipush 21, 2) := by decide +kernel
theorem dX5_aboutWord_49 : decode cX5_aboutWord 49 = .ok (.iconst 1, 1) := by decide +kernel
theorem dX5_aboutWord_50 : decode cX5_aboutWord 50 = .ok (.bipush 12, 2) := by decide +kernel
theorem dX5_aboutWord_52 : decode cX5_aboutWord 52 = .ok (.iconst 0, 1) := by decide +kernel
theorem dX5_aboutWord_53 : decode cX5_aboutWord 53 = .ok (.iconst 0, 1) := by decide +kernel
theorem dX5_aboutWord_54 : decode cX5_aboutWord 54 = .ok (.invokestatic 107, 3) := by decide +kernel
theorem dX5_aboutWord_57 : decode cX5_aboutWord 57 = .ok (.lreturn, 1) := by decide +kernel
theorem dX5_aboutWord_58 : decode cX5_aboutWord 58 = .ok (.bipush 23, 2) := by decide +kernel
theorem dX5_aboutWord_60 : decode cX5_aboutWord 60 = .ok (.bipush 8, 2) := by decide +kernel
theorem dX5_aboutWord_62 : decode cX5_aboutWord 62 = .ok (.bipush 15, 2) := by decide +kernel
theorem dX5_aboutWord_64 : decode cX5_aboutWord 64 = .ok (.bipush 12, 2) := by decide +kernel
theorem dX5_aboutWord_66 : decode cX5_aboutWord 66 = .ok (.iconst 5, 1) := by decide +kernel
theorem dX5_aboutWord_67 : decode cX5_aboutWord 67 = .ok (.iconst 0, 1) := by decide +kernel
theorem dX5_aboutWord_68 : decode cX5_aboutWord 68 = .ok (.iconst 0, 1) := by decide +kernel
theorem dX5_aboutWord_69 : decode cX5_aboutWord 69 = .ok (.invokestatic 107, 3) := by decide +kernel
theorem dX5_aboutWord_72 : decode cX5_aboutWord 72 = .ok (.lreturn, 1) := by decide +kernel
theorem dX5_aboutWord_73 : decode cX5_aboutWord 73 = .ok (.iconst 3, 1) := by decide +kernel
theorem dX5_aboutWord_74 : decode cX5_aboutWord 74 = .ok (.bipush 18, 2) := by decide +kernel
theorem dX5_aboutWord_76 : decode cX5_aboutWord 76 = .ok (.bipush 15, 2) := by decide +kernel
theorem dX5_aboutWord_78 : decode cX5_aboutWord 78 = .ok (.bipush 19, 2) := by decide +kernel
theorem dX5_aboutWord_80 : decode cX5_aboutWord 80 = .ok (.bipush 19, 2) := by decide +kernel
theorem dX5_aboutWord_82 : decode cX5_aboutWord 82 = .ok (.iconst 0, 1) := by decide +kernel
theorem dX5_aboutWord_83 : decode cX5_aboutWord 83 = .ok (.iconst 0, 1) := by decide +kernel
theorem dX5_aboutWord_84 : decode cX5_aboutWord 84 = .ok (.invokestatic 107, 3) := by decide +kernel
theorem dX5_aboutWord_87 : decode cX5_aboutWord 87 = .ok (.lreturn, 1) := by decide +kernel
theorem dX5_aboutWord_88 : decode cX5_aboutWord 88 = .ok (.bipush 18, 2) := by decide +kernel
theorem dX5_aboutWord_90 : decode cX5_aboutWord 90 = .ok (.iconst 1, 1) := by decide +kernel
theorem dX5_aboutWord_91 : decode cX5_aboutWord 91 = .ok (.bipush 20, 2) := by decide +kernel
theorem dX5_aboutWord_93 : decode cX5_aboutWord 93 = .ok (.iconst 5, 1) := by decide +kernel
theorem dX5_aboutWord_94 : decode cX5_aboutWord 94 = .ok (.iconst 0, 1) := by decide +kernel
theorem dX5_aboutWord_95 : decode cX5_aboutWord 95 = .ok (.iconst 0, 1) := by decide +kernel
theorem dX5_aboutWord_96 : decode cX5_aboutWord 96 = .ok (.iconst 0, 1) := by decide +kernel
theorem dX5_aboutWord_97 : decode cX5_aboutWord 97 = .ok (.invokestatic 107, 3) := by decide +kernel
theorem dX5_aboutWord_100 : decode cX5_aboutWord 100 = .ok (.lreturn, 1) := by decide +kernel
theorem dX5_aboutWord_101 : decode cX5_aboutWord 101 = .ok (.bipush 12, 2) := by decide +kernel
theorem dX5_aboutWord_103 : decode cX5_aboutWord 103 = .ok (.bipush 9, 2) := by decide +kernel
theorem dX5_aboutWord_105 : decode cX5_aboutWord 105 = .ok (.bipush 22, 2) := by decide +kernel
theorem dX5_aboutWord_107 : decode cX5_aboutWord 107 = .ok (.iconst 5, 1) := by decide +kernel
theorem dX5_aboutWord_108 : decode cX5_aboutWord 108 = .ok (.bipush 19, 2) := by decide +kernel
theorem dX5_aboutWord_110 : decode cX5_aboutWord 110 = .ok (.iconst 0, 1) := by decide +kernel
theorem dX5_aboutWord_111 : decode cX5_aboutWord 111 = .ok (.iconst 0, 1) := by decide +kernel
theorem dX5_aboutWord_112 : decode cX5_aboutWord 112 = .ok (.invokestatic 107, 3) := by decide +kernel
theorem dX5_aboutWord_115 : decode cX5_aboutWord 115 = .ok (.lreturn, 1) := by decide +kernel
theorem dX5_aboutWord_116 : decode cX5_aboutWord 116 = .ok (.bipush 12, 2) := by decide +kernel
theorem dX5_aboutWord_118 : decode cX5_aboutWord 118 = .ok (.iconst 5, 1) := by decide +kernel
theorem dX5_aboutWord_119 : decode cX5_aboutWord 119 = .ok (.iconst 1, 1) := by decide +kernel
theorem dX5_aboutWord_120 : decode cX5_aboutWord 120 = .ok (.bipush 19, 2) := by decide +kernel
theorem dX5_aboutWord_122 : decode cX5_aboutWord 122 = .ok (.bipush 20, 2) := by decide +kernel
theorem dX5_aboutWord_124 : decode cX5_aboutWord 124 = .ok (.iconst 0, 1) := by decide +kernel
theorem dX5_aboutWord_125 : decode cX5_aboutWord 125 = .ok (.iconst 0, 1) := by decide +kernel
theorem dX5_aboutWord_126 : decode cX5_aboutWord 126 = .ok (.invokestatic 107, 3) := by decide +kernel
theorem dX5_aboutWord_129 : decode cX5_aboutWord 129 = .ok (.lreturn, 1) := by decide +kernel
theorem dX5_aboutWord_130 : decode cX5_aboutWord 130 = .ok (.iconst 4, 1) := by decide +kernel
theorem dX5_aboutWord_131 : decode cX5_aboutWord 131 = .ok (.bipush 21, 2) := by decide +kernel
theorem dX5_aboutWord_133 : decode cX5_aboutWord 133 = .ok (.iconst 5, 1) := by decide +kernel
theorem dX5_aboutWord_134 : decode cX5_aboutWord 134 = .ok (.iconst 0, 1) := by decide +kernel
theorem dX5_aboutWord_135 : decode cX5_aboutWord 135 = .ok (.iconst 0, 1) := by decide +kernel
theorem dX5_aboutWord_136 : decode cX5_aboutWord 136 = .ok (.iconst 0, 1) := by decide +kernel
theorem dX5_aboutWord_137 : decode cX5_aboutWord 137 = .ok (.iconst 0, 1) := by decide +kernel
theorem dX5_aboutWord_138 : decode cX5_aboutWord 138 = .ok (.invokestatic 107, 3) := by decide +kernel
theorem dX5_aboutWord_141 : decode cX5_aboutWord 141 = .ok (.lreturn, 1) := by decide +kernel
theorem dX5_aboutWord_142 : decode cX5_aboutWord 142 = .ok (.bipush 12, 2) := by decide +kernel
theorem dX5_aboutWord_144 : decode cX5_aboutWord 144 = .ok (.iconst 1, 1) := by decide +kernel
theorem dX5_aboutWord_145 : decode cX5_aboutWord 145 = .ok (.bipush 19, 2) := by decide +kernel
theorem dX5_aboutWord_147 : decode cX5_aboutWord 147 = .ok (.bipush 20, 2) := by decide +kernel
theorem dX5_aboutWord_149 : decode cX5_aboutWord 149 = .ok (.iconst 0, 1) := by decide +kernel
theorem dX5_aboutWord_150 : decode cX5_aboutWord 150 = .ok (.iconst 0, 1) := by decide +kernel
theorem dX5_aboutWord_151 : decode cX5_aboutWord 151 = .ok (.iconst 0, 1) := by decide +kernel
theorem dX5_aboutWord_152 : decode cX5_aboutWord 152 = .ok (.invokestatic 107, 3) := by decide +kernel
theorem dX5_aboutWord_155 : decode cX5_aboutWord 155 = .ok (.lreturn, 1) := by decide +kernel
theorem dX5_aboutHere_0 : decode cX5_aboutHere 0 = .ok (.iconst 2, 1) := by decide +kernel
theorem dX5_aboutHere_1 : decode cX5_aboutHere 1 = .ok (.istore_n 1, 1) := by decide +kernel
theorem dX5_aboutHere_2 : decode cX5_aboutHere 2 = .ok (.iload_n 1, 1) := by decide +kernel
theorem dX5_aboutHere_3 : decode cX5_aboutHere 3 = .ok (.bipush 9, 2) := by decide +kernel
theorem dX5_aboutHere_5 : decode cX5_aboutHere 5 = .ok (.if_icmp .gt 22, 3) := by decide +kernel
theorem dX5_aboutHere_8 : decode cX5_aboutHere 8 = .ok (.aload_n 0, 1) := by decide +kernel
theorem dX5_aboutHere_9 : decode cX5_aboutHere 9 = .ok (.iload_n 1, 1) := by decide +kernel
theorem dX5_aboutHere_10 : decode cX5_aboutHere 10 = .ok (.invokestatic 111, 3) := by decide +kernel
theorem dX5_aboutHere_13 : decode cX5_aboutHere 13 = .ok (.invokevirtual 115, 3) := by decide +kernel
theorem dX5_aboutHere_16 : decode cX5_aboutHere 16 = .ok (.ifCond .eq 5, 3) := by decide +kernel
theorem dX5_aboutHere_19 : decode cX5_aboutHere 19 = .ok (.iload_n 1, 1) := by decide +kernel
theorem dX5_aboutHere_20 : decode cX5_aboutHere 20 = .ok (.ireturn, 1) := by decide +kernel
theorem dX5_aboutHere_21 : decode cX5_aboutHere 21 = .ok (.iinc 1 1, 3) := by decide +kernel
theorem dX5_aboutHere_24 : decode cX5_aboutHere 24 = .ok (.goto (-22), 3) := by decide +kernel
theorem dX5_aboutHere_27 : decode cX5_aboutHere 27 = .ok (.iconst (-1), 1) := by decide +kernel
theorem dX5_aboutHere_28 : decode cX5_aboutHere 28 = .ok (.ireturn, 1) := by decide +kernel
theorem dX5_isName_0 : decode cX5_isName 0 = .ok (.aload_n 0, 1) := by decide +kernel
theorem dX5_isName_1 : decode cX5_isName 1 = .ok (.getfield 98, 3) := by decide +kernel
theorem dX5_isName_4 : decode cX5_isName 4 = .ok (.ifCond .ne 28, 3) := by decide +kernel
theorem dX5_isName_7 : decode cX5_isName 7 = .ok (.aload_n 0, 1) := by decide +kernel
theorem dX5_isName_8 : decode cX5_isName 8 = .ok (.getfield 77, 3) := by decide +kernel
theorem dX5_isName_11 : decode cX5_isName 11 = .ok (.iconst 1, 1) := by decide +kernel
theorem dX5_isName_12 : decode cX5_isName 12 = .ok (.if_icmp .ne 20, 3) := by decide +kernel
theorem dX5_isName_15 : decode cX5_isName 15 = .ok (.aload_n 0, 1) := by decide +kernel
theorem dX5_isName_16 : decode cX5_isName 16 = .ok (.getfield 74, 3) := by decide +kernel
theorem dX5_isName_19 : decode cX5_isName 19 = .ok (.bipush 6, 2) := by decide +kernel
theorem dX5_isName_21 : decode cX5_isName 21 = .ok (.if_icmp .gt 11, 3) := by decide +kernel
theorem dX5_isName_24 : decode cX5_isName 24 = .ok (.aload_n 0, 1) := by decide +kernel
theorem dX5_isName_25 : decode cX5_isName 25 = .ok (.invokevirtual 119, 3) := by decide +kernel
theorem dX5_isName_28 : decode cX5_isName 28 = .ok (.iconst (-1), 1) := by decide +kernel
theorem dX5_isName_29 : decode cX5_isName 29 = .ok (.if_icmp .eq 5, 3) := by decide +kernel
theorem dX5_isName_32 : decode cX5_isName 32 = .ok (.iconst 0, 1) := by decide +kernel
theorem dX5_isName_33 : decode cX5_isName 33 = .ok (.ireturn, 1) := by decide +kernel
theorem dX5_isName_34 : decode cX5_isName 34 = .ok (.aload_n 0, 1) := by decide +kernel
theorem dX5_isName_35 : decode cX5_isName 35 = .ok (.invokestatic 123, 3) := by decide +kernel
theorem dX5_isName_38 : decode cX5_isName 38 = .ok (.invokevirtual 115, 3) := by decide +kernel
theorem dX5_isName_41 : decode cX5_isName 41 = .ok (.ifCond .ne 43, 3) := by decide +kernel
theorem dX5_isName_44 : decode cX5_isName 44 = .ok (.aload_n 0, 1) := by decide +kernel
theorem dX5_isName_45 : decode cX5_isName 45 = .ok (.invokestatic 127, 3) := by decide +kernel
theorem dX5_isName_48 : decode cX5_isName 48 = .ok (.invokevirtual 115, 3) := by decide +kernel
theorem dX5_isName_51 : decode cX5_isName 51 = .ok (.ifCond .ne 33, 3) := by decide +kernel
theorem dX5_isName_54 : decode cX5_isName 54 = .ok (.aload_n 0, 1) := by decide +kernel
theorem dX5_isName_55 : decode cX5_isName 55 = .ok (.invokestatic 130, 3) := by decide +kernel
theorem dX5_isName_58 : decode cX5_isName 58 = .ok (.invokevirtual 115, 3) := by decide +kernel
theorem dX5_isName_61 : decode cX5_isName 61 = .ok (.ifCond .ne 23, 3) := by decide +kernel
theorem dX5_isName_64 : decode cX5_isName 64 = .ok (.aload_n 0, 1) := by decide +kernel
theorem dX5_isName_65 : decode cX5_isName 65 = .ok (.invokestatic 133, 3) := by decide +kernel
theorem dX5_isName_68 : decode cX5_isName 68 = .ok (.invokevirtual 115, 3) := by decide +kernel
theorem dX5_isName_71 : decode cX5_isName 71 = .ok (.ifCond .ne 13, 3) := by decide +kernel
theorem dX5_isName_74 : decode cX5_isName 74 = .ok (.aload_n 0, 1) := by decide +kernel
theorem dX5_isName_75 : decode cX5_isName 75 = .ok (.invokestatic 136, 3) := by decide +kernel
theorem dX5_isName_78 : decode cX5_isName 78 = .ok (.invokevirtual 115, 3) := by decide +kernel
theorem dX5_isName_81 : decode cX5_isName 81 = .ok (.ifCond .eq 5, 3) := by decide +kernel
theorem dX5_isName_84 : decode cX5_isName 84 = .ok (.iconst 0, 1) := by decide +kernel
theorem dX5_isName_85 : decode cX5_isName 85 = .ok (.ireturn, 1) := by decide +kernel
theorem dX5_isName_86 : decode cX5_isName 86 = .ok (.aload_n 0, 1) := by decide +kernel
theorem dX5_isName_87 : decode cX5_isName 87 = .ok (.invokestatic 139, 3) := by decide +kernel
theorem dX5_isName_90 : decode cX5_isName 90 = .ok (.invokevirtual 115, 3) := by decide +kernel
theorem dX5_isName_93 : decode cX5_isName 93 = .ok (.ifCond .ne 47, 3) := by decide +kernel
theorem dX5_isName_96 : decode cX5_isName 96 = .ok (.aload_n 0, 1) := by decide +kernel
theorem dX5_isName_97 : decode cX5_isName 97 = .ok (.invokestatic 142, 3) := by decide +kernel
theorem dX5_isName_100 : decode cX5_isName 100 = .ok (.invokevirtual 115, 3) := by decide +kernel
theorem dX5_isName_103 : decode cX5_isName 103 = .ok (.ifCond .ne 37, 3) := by decide +kernel
theorem dX5_isName_106 : decode cX5_isName 106 = .ok (.aload_n 0, 1) := by decide +kernel
theorem dX5_isName_107 : decode cX5_isName 107 = .ok (.invokestatic 145, 3) := by decide +kernel
theorem dX5_isName_110 : decode cX5_isName 110 = .ok (.invokevirtual 115, 3) := by decide +kernel
theorem dX5_isName_113 : decode cX5_isName 113 = .ok (.ifCond .ne 27, 3) := by decide +kernel
theorem dX5_isName_116 : decode cX5_isName 116 = .ok (.aload_n 0, 1) := by decide +kernel
theorem dX5_isName_117 : decode cX5_isName 117 = .ok (.invokestatic 148, 3) := by decide +kernel
theorem dX5_isName_120 : decode cX5_isName 120 = .ok (.invokevirtual 115, 3) := by decide +kernel
theorem dX5_isName_123 : decode cX5_isName 123 = .ok (.ifCond .ne 17, 3) := by decide +kernel
theorem dX5_isName_126 : decode cX5_isName 126 = .ok (.aload_n 0, 1) := by decide +kernel
theorem dX5_isName_127 : decode cX5_isName 127 = .ok (.invokestatic 151, 3) := by decide +kernel
theorem dX5_isName_130 : decode cX5_isName 130 = .ok (.invokevirtual 115, 3) := by decide +kernel
theorem dX5_isName_133 : decode cX5_isName 133 = .ok (.ifCond .ne 7, 3) := by decide +kernel
theorem dX5_isName_136 : decode cX5_isName 136 = .ok (.iconst 1, 1) := by decide +kernel
theorem dX5_isName_137 : decode cX5_isName 137 = .ok (.goto 4, 3) := by decide +kernel
theorem dX5_isName_140 : decode cX5_isName 140 = .ok (.iconst 0, 1) := by decide +kernel
theorem dX5_isName_141 : decode cX5_isName 141 = .ok (.ireturn, 1) := by decide +kernel
theorem dX5_shipNamed_0 : decode cX5_shipNamed 0 = .ok (.iconst 0, 1) := by decide +kernel
theorem dX5_shipNamed_1 : decode cX5_shipNamed 1 = .ok (.istore_n 1, 1) := by decide +kernel
theorem dX5_shipNamed_2 : decode cX5_shipNamed 2 = .ok (.iload_n 1, 1) := by decide +kernel
theorem dX5_shipNamed_3 : decode cX5_shipNamed 3 = .ok (.aload_n 0, 1) := by decide +kernel
theorem dX5_shipNamed_4 : decode cX5_shipNamed 4 = .ok (.getfield 20, 3) := by decide +kernel
theorem dX5_shipNamed_7 : decode cX5_shipNamed 7 = .ok (.iconst 0, 1) := by decide +kernel
theorem dX5_shipNamed_8 : decode cX5_shipNamed 8 = .ok (.iaload, 1) := by decide +kernel
theorem dX5_shipNamed_9 : decode cX5_shipNamed 9 = .ok (.if_icmp .ge 25, 3) := by decide +kernel
theorem dX5_shipNamed_12 : decode cX5_shipNamed 12 = .ok (.aload_n 0, 1) := by decide +kernel
theorem dX5_shipNamed_13 : decode cX5_shipNamed 13 = .ok (.getfield 37, 3) := by decide +kernel
theorem dX5_shipNamed_16 : decode cX5_shipNamed 16 = .ok (.iload_n 1, 1) := by decide +kernel
theorem dX5_shipNamed_17 : decode cX5_shipNamed 17 = .ok (.laload, 1) := by decide +kernel
theorem dX5_shipNamed_18 : decode cX5_shipNamed 18 = .ok (.aload_n 0, 1) := by decide +kernel
theorem dX5_shipNamed_19 : decode cX5_shipNamed 19 = .ok (.getfield 84, 3) := by decide +kernel
theorem dX5_shipNamed_22 : decode cX5_shipNamed 22 = .ok (.lcmp, 1) := by decide +kernel
theorem dX5_shipNamed_23 : decode cX5_shipNamed 23 = .ok (.ifCond .ne 5, 3) := by decide +kernel
theorem dX5_shipNamed_26 : decode cX5_shipNamed 26 = .ok (.iload_n 1, 1) := by decide +kernel
theorem dX5_shipNamed_27 : decode cX5_shipNamed 27 = .ok (.ireturn, 1) := by decide +kernel
theorem dX5_shipNamed_28 : decode cX5_shipNamed 28 = .ok (.iinc 1 1, 3) := by decide +kernel
theorem dX5_shipNamed_31 : decode cX5_shipNamed 31 = .ok (.goto (-29), 3) := by decide +kernel
theorem dX5_shipNamed_34 : decode cX5_shipNamed 34 = .ok (.iconst (-1), 1) := by decide +kernel
theorem dX5_shipNamed_35 : decode cX5_shipNamed 35 = .ok (.ireturn, 1) := by decide +kernel
theorem dX5_takes_0 : decode cX5_takes 0 = .ok (.aload_n 0, 1) := by decide +kernel
theorem dX5_takes_1 : decode cX5_takes 1 = .ok (.lload_n 1, 1) := by decide +kernel
theorem dX5_takes_2 : decode cX5_takes 2 = .ok (.invokevirtual 115, 3) := by decide +kernel
theorem dX5_takes_5 : decode cX5_takes 5 = .ok (.ifCond .ne 8, 3) := by decide +kernel
theorem dX5_takes_8 : decode cX5_takes 8 = .ok (.aload_n 0, 1) := by decide +kernel
theorem dX5_takes_9 : decode cX5_takes 9 = .ok (.iconst 1, 1) := by decide +kernel
theorem dX5_takes_10 : decode cX5_takes 10 = .ok (.invokevirtual 154, 3) := by decide +kernel
theorem dX5_takes_13 : decode cX5_takes 13 = .ok (.aload_n 0, 1) := by decide +kernel
theorem dX5_takes_14 : decode cX5_takes 14 = .ok (.invokevirtual 158, 3) := by decide +kernel
theorem dX5_takes_17 : decode cX5_takes 17 = .ok (.return_, 1) := by decide +kernel
theorem dX5_whole_0 : decode cX5_whole 0 = .ok (.aload_n 0, 1) := by decide +kernel
theorem dX5_whole_1 : decode cX5_whole 1 = .ok (.getfield 77, 3) := by decide +kernel
theorem dX5_whole_4 : decode cX5_whole 4 = .ok (.iconst 2, 1) := by decide +kernel
theorem dX5_whole_5 : decode cX5_whole 5 = .ok (.if_icmp .eq 11, 3) := by decide +kernel
theorem dX5_whole_8 : decode cX5_whole 8 = .ok (.aload_n 0, 1) := by decide +kernel
theorem dX5_whole_9 : decode cX5_whole 9 = .ok (.iconst 1, 1) := by decide +kernel
theorem dX5_whole_10 : decode cX5_whole 10 = .ok (.invokevirtual 154, 3) := by decide +kernel
theorem dX5_whole_13 : decode cX5_whole 13 = .ok (.goto 23, 3) := by decide +kernel
theorem dX5_whole_16 : decode cX5_whole 16 = .ok (.aload_n 0, 1) := by decide +kernel
theorem dX5_whole_17 : decode cX5_whole 17 = .ok (.getfield 95, 3) := by decide +kernel
theorem dX5_whole_20 : decode cX5_whole 20 = .ok (.i2l, 1) := by decide +kernel
theorem dX5_whole_21 : decode cX5_whole 21 = .ok (.iload_n 1, 1) := by decide +kernel
theorem dX5_whole_22 : decode cX5_whole 22 = .ok (.i2l, 1) := by decide +kernel
theorem dX5_whole_23 : decode cX5_whole 23 = .ok (.iload_n 2, 1) := by decide +kernel
theorem dX5_whole_24 : decode cX5_whole 24 = .ok (.i2l, 1) := by decide +kernel
theorem dX5_whole_25 : decode cX5_whole 25 = .ok (.invokestatic 161, 3) := by decide +kernel
theorem dX5_whole_28 : decode cX5_whole 28 = .ok (.ifCond .ne 8, 3) := by decide +kernel
theorem dX5_whole_31 : decode cX5_whole 31 = .ok (.aload_n 0, 1) := by decide +kernel
theorem dX5_whole_32 : decode cX5_whole 32 = .ok (.iconst 2, 1) := by decide +kernel
theorem dX5_whole_33 : decode cX5_whole 33 = .ok (.invokevirtual 154, 3) := by decide +kernel
theorem dX5_whole_36 : decode cX5_whole 36 = .ok (.aload_n 0, 1) := by decide +kernel
theorem dX5_whole_37 : decode cX5_whole 37 = .ok (.getfield 95, 3) := by decide +kernel
theorem dX5_whole_40 : decode cX5_whole 40 = .ok (.istore_n 3, 1) := by decide +kernel
theorem dX5_whole_41 : decode cX5_whole 41 = .ok (.aload_n 0, 1) := by decide +kernel
theorem dX5_whole_42 : decode cX5_whole 42 = .ok (.invokevirtual 158, 3) := by decide +kernel
theorem dX5_whole_45 : decode cX5_whole 45 = .ok (.iload_n 3, 1) := by decide +kernel
theorem dX5_whole_46 : decode cX5_whole 46 = .ok (.ireturn, 1) := by decide +kernel
theorem dX5_shipLine_0 : decode cX5_shipLine 0 = .ok (.aload_n 0, 1) := by decide +kernel
theorem dX5_shipLine_1 : decode cX5_shipLine 1 = .ok (.getfield 20, 3) := by decide +kernel
theorem dX5_shipLine_4 : decode cX5_shipLine 4 = .ok (.iconst 0, 1) := by decide +kernel
theorem dX5_shipLine_5 : decode cX5_shipLine 5 = .ok (.iaload, 1) := by decide +kernel
theorem dX5_shipLine_6 : decode cX5_shipLine 6 = .ok (.istore_n 1, 1) := by decide +kernel
theorem dX5_shipLine_7 : decode cX5_shipLine 7 = .ok (.iload_n 1, 1) := by decide +kernel
theorem dX5_shipLine_8 : decode cX5_shipLine 8 = .ok (.iconst 4, 1) := by decide +kernel
theorem dX5_shipLine_9 : decode cX5_shipLine 9 = .ok (.if_icmp .ne 8, 3) := by decide +kernel
theorem dX5_shipLine_12 : decode cX5_shipLine 12 = .ok (.aload_n 0, 1) := by decide +kernel
theorem dX5_shipLine_13 : decode cX5_shipLine 13 = .ok (.iconst 4, 1) := by decide +kernel
theorem dX5_shipLine_14 : decode cX5_shipLine 14 = .ok (.invokevirtual 154, 3) := by decide +kernel
theorem dX5_shipLine_17 : decode cX5_shipLine 17 = .ok (.aload_n 0, 1) := by decide +kernel
theorem dX5_shipLine_18 : decode cX5_shipLine 18 = .ok (.invokevirtual 158, 3) := by decide +kernel
theorem dX5_shipLine_21 : decode cX5_shipLine 21 = .ok (.aload_n 0, 1) := by decide +kernel
theorem dX5_shipLine_22 : decode cX5_shipLine 22 = .ok (.invokevirtual 165, 3) := by decide +kernel
theorem dX5_shipLine_25 : decode cX5_shipLine 25 = .ok (.ifCond .ne 11, 3) := by decide +kernel
theorem dX5_shipLine_28 : decode cX5_shipLine 28 = .ok (.aload_n 0, 1) := by decide +kernel
theorem dX5_shipLine_29 : decode cX5_shipLine 29 = .ok (.iconst 1, 1) := by decide +kernel
theorem dX5_shipLine_30 : decode cX5_shipLine 30 = .ok (.invokevirtual 154, 3) := by decide +kernel
theorem dX5_shipLine_33 : decode cX5_shipLine 33 = .ok (.goto 16, 3) := by decide +kernel
theorem dX5_shipLine_36 : decode cX5_shipLine 36 = .ok (.aload_n 0, 1) := by decide +kernel
theorem dX5_shipLine_37 : decode cX5_shipLine 37 = .ok (.invokevirtual 169, 3) := by decide +kernel
theorem dX5_shipLine_40 : decode cX5_shipLine 40 = .ok (.iconst (-1), 1) := by decide +kernel
theorem dX5_shipLine_41 : decode cX5_shipLine 41 = .ok (.if_icmp .eq 8, 3) := by decide +kernel
theorem dX5_shipLine_44 : decode cX5_shipLine 44 = .ok (.aload_n 0, 1) := by decide +kernel
theorem dX5_shipLine_45 : decode cX5_shipLine 45 = .ok (.iconst 3, 1) := by decide +kernel
theorem dX5_shipLine_46 : decode cX5_shipLine 46 = .ok (.invokevirtual 154, 3) := by decide +kernel
theorem dX5_shipLine_49 : decode cX5_shipLine 49 = .ok (.aload_n 0, 1) := by decide +kernel
theorem dX5_shipLine_50 : decode cX5_shipLine 50 = .ok (.getfield 98, 3) := by decide +kernel
theorem dX5_shipLine_53 : decode cX5_shipLine 53 = .ok (.ifCond .eq 4, 3) := by decide +kernel
theorem dX5_shipLine_56 : decode cX5_shipLine 56 = .ok (.return_, 1) := by decide +kernel
theorem dX5_shipLine_57 : decode cX5_shipLine 57 = .ok (.aload_n 0, 1) := by decide +kernel
theorem dX5_shipLine_58 : decode cX5_shipLine 58 = .ok (.getfield 37, 3) := by decide +kernel
theorem dX5_shipLine_61 : decode cX5_shipLine 61 = .ok (.iload_n 1, 1) := by decide +kernel
theorem dX5_shipLine_62 : decode cX5_shipLine 62 = .ok (.aload_n 0, 1) := by decide +kernel
theorem dX5_shipLine_63 : decode cX5_shipLine 63 = .ok (.getfield 84, 3) := by decide +kernel
theorem dX5_shipLine_66 : decode cX5_shipLine 66 = .ok (.lastore, 1) := by decide +kernel
theorem dX5_shipLine_67 : decode cX5_shipLine 67 = .ok (.bipush 10, 2) := by decide +kernel
theorem dX5_shipLine_69 : decode cX5_shipLine 69 = .ok (.bipush 6, 2) := by decide +kernel
theorem dX5_shipLine_71 : decode cX5_shipLine 71 = .ok (.iload_n 1, 1) := by decide +kernel
theorem dX5_shipLine_72 : decode cX5_shipLine 72 = .ok (.imul, 1) := by decide +kernel
theorem dX5_shipLine_73 : decode cX5_shipLine 73 = .ok (.iadd, 1) := by decide +kernel
theorem dX5_shipLine_74 : decode cX5_shipLine 74 = .ok (.istore_n 2, 1) := by decide +kernel
theorem dX5_shipLine_75 : decode cX5_shipLine 75 = .ok (.aload_n 0, 1) := by decide +kernel
theorem dX5_shipLine_76 : decode cX5_shipLine 76 = .ok (.invokevirtual 104, 3) := by decide +kernel
theorem dX5_shipLine_79 : decode cX5_shipLine 79 = .ok (.aload_n 0, 1) := by decide +kernel
theorem dX5_shipLine_80 : decode cX5_shipLine 80 = .ok (.invokestatic 127, 3) := by decide +kernel
theorem dX5_shipLine_83 : decode cX5_shipLine 83 = .ok (.invokevirtual 172, 3) := by decide +kernel
theorem dX5_shipLine_86 : decode cX5_shipLine 86 = .ok (.aload_n 0, 1) := by decide +kernel
theorem dX5_shipLine_87 : decode cX5_shipLine 87 = .ok (.getfield 20, 3) := by decide +kernel
theorem dX5_shipLine_90 : decode cX5_shipLine 90 = .ok (.iload_n 2, 1) := by decide +kernel
theorem dX5_shipLine_91 : decode cX5_shipLine 91 = .ok (.iconst 0, 1) := by decide +kernel
theorem dX5_shipLine_92 : decode cX5_shipLine 92 = .ok (.iadd, 1) := by decide +kernel
theorem dX5_shipLine_93 : decode cX5_shipLine 93 = .ok (.aload_n 0, 1) := by decide +kernel
theorem dX5_shipLine_94 : decode cX5_shipLine 94 = .ok (.iconst 1, 1) := by decide +kernel
theorem dX5_shipLine_95 : decode cX5_shipLine 95 = .ok (.ldc 176, 2) := by decide +kernel
theorem dX5_shipLine_97 : decode cX5_shipLine 97 = .ok (.invokevirtual 177, 3) := by decide +kernel
theorem dX5_shipLine_100 : decode cX5_shipLine 100 = .ok (.iastore, 1) := by decide +kernel
theorem dX5_shipLine_101 : decode cX5_shipLine 101 = .ok (.aload_n 0, 1) := by decide +kernel
theorem dX5_shipLine_102 : decode cX5_shipLine 102 = .ok (.invokestatic 130, 3) := by decide +kernel
theorem dX5_shipLine_105 : decode cX5_shipLine 105 = .ok (.invokevirtual 172, 3) := by decide +kernel
theorem dX5_shipLine_108 : decode cX5_shipLine 108 = .ok (.aload_n 0, 1) := by decide +kernel
theorem dX5_shipLine_109 : decode cX5_shipLine 109 = .ok (.getfield 20, 3) := by decide +kernel
theorem dX5_shipLine_112 : decode cX5_shipLine 112 = .ok (.iload_n 2, 1) := by decide +kernel
theorem dX5_shipLine_113 : decode cX5_shipLine 113 = .ok (.iconst 1, 1) := by decide +kernel
theorem dX5_shipLine_114 : decode cX5_shipLine 114 = .ok (.iadd, 1) := by decide +kernel
theorem dX5_shipLine_115 : decode cX5_shipLine 115 = .ok (.aload_n 0, 1) := by decide +kernel
theorem dX5_shipLine_116 : decode cX5_shipLine 116 = .ok (.iconst 0, 1) := by decide +kernel
theorem dX5_shipLine_117 : decode cX5_shipLine 117 = .ok (.bipush 10, 2) := by decide +kernel
theorem dX5_shipLine_119 : decode cX5_shipLine 119 = .ok (.invokevirtual 177, 3) := by decide +kernel
theorem dX5_shipLine_122 : decode cX5_shipLine 122 = .ok (.iastore, 1) := by decide +kernel
theorem dX5_shipLine_123 : decode cX5_shipLine 123 = .ok (.aload_n 0, 1) := by decide +kernel
theorem dX5_shipLine_124 : decode cX5_shipLine 124 = .ok (.invokestatic 133, 3) := by decide +kernel
theorem dX5_shipLine_127 : decode cX5_shipLine 127 = .ok (.invokevirtual 172, 3) := by decide +kernel
theorem dX5_shipLine_130 : decode cX5_shipLine 130 = .ok (.aload_n 0, 1) := by decide +kernel
theorem dX5_shipLine_131 : decode cX5_shipLine 131 = .ok (.getfield 20, 3) := by decide +kernel
theorem dX5_shipLine_134 : decode cX5_shipLine 134 = .ok (.iload_n 2, 1) := by decide +kernel
theorem dX5_shipLine_135 : decode cX5_shipLine 135 = .ok (.iconst 2, 1) := by decide +kernel
theorem dX5_shipLine_136 : decode cX5_shipLine 136 = .ok (.iadd, 1) := by decide +kernel
theorem dX5_shipLine_137 : decode cX5_shipLine 137 = .ok (.aload_n 0, 1) := by decide +kernel
theorem dX5_shipLine_138 : decode cX5_shipLine 138 = .ok (.iconst 0, 1) := by decide +kernel
theorem dX5_shipLine_139 : decode cX5_shipLine 139 = .ok (.ldc 181, 2) := by decide +kernel
theorem dX5_shipLine_141 : decode cX5_shipLine 141 = .ok (.invokevirtual 177, 3) := by decide +kernel
theorem dX5_shipLine_144 : decode cX5_shipLine 144 = .ok (.iastore, 1) := by decide +kernel
theorem dX5_shipLine_145 : decode cX5_shipLine 145 = .ok (.aload_n 0, 1) := by decide +kernel
theorem dX5_shipLine_146 : decode cX5_shipLine 146 = .ok (.invokestatic 136, 3) := by decide +kernel
theorem dX5_shipLine_149 : decode cX5_shipLine 149 = .ok (.invokevirtual 172, 3) := by decide +kernel
theorem dX5_shipLine_152 : decode cX5_shipLine 152 = .ok (.aload_n 0, 1) := by decide +kernel
theorem dX5_shipLine_153 : decode cX5_shipLine 153 = .ok (.getfield 20, 3) := by decide +kernel
theorem dX5_shipLine_156 : decode cX5_shipLine 156 = .ok (.iload_n 2, 1) := by decide +kernel
theorem dX5_shipLine_157 : decode cX5_shipLine 157 = .ok (.iconst 3, 1) := by decide +kernel
theorem dX5_shipLine_158 : decode cX5_shipLine 158 = .ok (.iadd, 1) := by decide +kernel
theorem dX5_shipLine_159 : decode cX5_shipLine 159 = .ok (.aload_n 0, 1) := by decide +kernel
theorem dX5_shipLine_160 : decode cX5_shipLine 160 = .ok (.iconst 0, 1) := by decide +kernel
theorem dX5_shipLine_161 : decode cX5_shipLine 161 = .ok (.ldc 181, 2) := by decide +kernel
theorem dX5_shipLine_163 : decode cX5_shipLine 163 = .ok (.invokevirtual 177, 3) := by decide +kernel
theorem dX5_shipLine_166 : decode cX5_shipLine 166 = .ok (.iastore, 1) := by decide +kernel
theorem dX5_shipLine_167 : decode cX5_shipLine 167 = .ok (.aload_n 0, 1) := by decide +kernel
theorem dX5_shipLine_168 : decode cX5_shipLine 168 = .ok (.getfield 20, 3) := by decide +kernel
theorem dX5_shipLine_171 : decode cX5_shipLine 171 = .ok (.iload_n 2, 1) := by decide +kernel
theorem dX5_shipLine_172 : decode cX5_shipLine 172 = .ok (.iconst 4, 1) := by decide +kernel
theorem dX5_shipLine_173 : decode cX5_shipLine 173 = .ok (.iadd, 1) := by decide +kernel
theorem dX5_shipLine_174 : decode cX5_shipLine 174 = .ok (.aload_n 0, 1) := by decide +kernel
theorem dX5_shipLine_175 : decode cX5_shipLine 175 = .ok (.invokestatic 139, 3) := by decide +kernel
theorem dX5_shipLine_178 : decode cX5_shipLine 178 = .ok (.invokevirtual 115, 3) := by decide +kernel
theorem dX5_shipLine_181 : decode cX5_shipLine 181 = .ok (.ifCond .eq 7, 3) := by decide +kernel
theorem dX5_shipLine_184 : decode cX5_shipLine 184 = .ok (.iconst 1, 1) := by decide +kernel
theorem dX5_shipLine_185 : decode cX5_shipLine 185 = .ok (.goto 4, 3) := by decide +kernel
theorem dX5_shipLine_188 : decode cX5_shipLine 188 = .ok (.iconst 0, 1) := by decide +kernel
theorem dX5_shipLine_189 : decode cX5_shipLine 189 = .ok (.iastore, 1) := by decide +kernel
theorem dX5_shipLine_190 : decode cX5_shipLine 190 = .ok (.aload_n 0, 1) := by decide +kernel
theorem dX5_shipLine_191 : decode cX5_shipLine 191 = .ok (.getfield 20, 3) := by decide +kernel
theorem dX5_shipLine_194 : decode cX5_shipLine 194 = .ok (.iload_n 2, 1) := by decide +kernel
theorem dX5_shipLine_195 : decode cX5_shipLine 195 = .ok (.iconst 4, 1) := by decide +kernel
theorem dX5_shipLine_196 : decode cX5_shipLine 196 = .ok (.iadd, 1) := by decide +kernel
theorem dX5_shipLine_197 : decode cX5_shipLine 197 = .ok (.iaload, 1) := by decide +kernel
theorem dX5_shipLine_198 : decode cX5_shipLine 198 = .ok (.iconst 1, 1) := by decide +kernel
theorem dX5_shipLine_199 : decode cX5_shipLine 199 = .ok (.if_icmp .ne 7, 3) := by decide +kernel
theorem dX5_shipLine_202 : decode cX5_shipLine 202 = .ok (.aload_n 0, 1) := by decide +kernel
theorem dX5_shipLine_203 : decode cX5_shipLine 203 = .ok (.invokevirtual 104, 3) := by decide +kernel
theorem dX5_shipLine_206 : decode cX5_shipLine 206 = .ok (.aload_n 0, 1) := by decide +kernel
theorem dX5_shipLine_207 : decode cX5_shipLine 207 = .ok (.getfield 20, 3) := by decide +kernel
theorem dX5_shipLine_210 : decode cX5_shipLine 210 = .ok (.iload_n 2, 1) := by decide +kernel
theorem dX5_shipLine_211 : decode cX5_shipLine 211 = .ok (.iconst 5, 1) := by decide +kernel
theorem dX5_shipLine_212 : decode cX5_shipLine 212 = .ok (.iadd, 1) := by decide +kernel
theorem dX5_shipLine_213 : decode cX5_shipLine 213 = .ok (.aload_n 0, 1) := by decide +kernel
theorem dX5_shipLine_214 : decode cX5_shipLine 214 = .ok (.invokestatic 142, 3) := by decide +kernel
theorem dX5_shipLine_217 : decode cX5_shipLine 217 = .ok (.invokevirtual 115, 3) := by decide +kernel
theorem dX5_shipLine_220 : decode cX5_shipLine 220 = .ok (.ifCond .eq 7, 3) := by decide +kernel
theorem dX5_shipLine_223 : decode cX5_shipLine 223 = .ok (.iconst 1, 1) := by decide +kernel
theorem dX5_shipLine_224 : decode cX5_shipLine 224 = .ok (.goto 4, 3) := by decide +kernel
theorem dX5_shipLine_227 : decode cX5_shipLine 227 = .ok (.iconst 0, 1) := by decide +kernel
theorem dX5_shipLine_228 : decode cX5_shipLine 228 = .ok (.iastore, 1) := by decide +kernel
theorem dX5_shipLine_229 : decode cX5_shipLine 229 = .ok (.aload_n 0, 1) := by decide +kernel
theorem dX5_shipLine_230 : decode cX5_shipLine 230 = .ok (.getfield 20, 3) := by decide +kernel
theorem dX5_shipLine_233 : decode cX5_shipLine 233 = .ok (.iload_n 2, 1) := by decide +kernel
theorem dX5_shipLine_234 : decode cX5_shipLine 234 = .ok (.iconst 5, 1) := by decide +kernel
theorem dX5_shipLine_235 : decode cX5_shipLine 235 = .ok (.iadd, 1) := by decide +kernel
theorem dX5_shipLine_236 : decode cX5_shipLine 236 = .ok (.iaload, 1) := by decide +kernel
theorem dX5_shipLine_237 : decode cX5_shipLine 237 = .ok (.iconst 1, 1) := by decide +kernel
theorem dX5_shipLine_238 : decode cX5_shipLine 238 = .ok (.if_icmp .ne 7, 3) := by decide +kernel
theorem dX5_shipLine_241 : decode cX5_shipLine 241 = .ok (.aload_n 0, 1) := by decide +kernel
theorem dX5_shipLine_242 : decode cX5_shipLine 242 = .ok (.invokevirtual 104, 3) := by decide +kernel
theorem dX5_shipLine_245 : decode cX5_shipLine 245 = .ok (.aload_n 0, 1) := by decide +kernel
theorem dX5_shipLine_246 : decode cX5_shipLine 246 = .ok (.getfield 20, 3) := by decide +kernel
theorem dX5_shipLine_249 : decode cX5_shipLine 249 = .ok (.iconst 0, 1) := by decide +kernel
theorem dX5_shipLine_250 : decode cX5_shipLine 250 = .ok (.dup2, 1) := by decide +kernel
theorem dX5_shipLine_251 : decode cX5_shipLine 251 = .ok (.iaload, 1) := by decide +kernel
theorem dX5_shipLine_252 : decode cX5_shipLine 252 = .ok (.iconst 1, 1) := by decide +kernel
theorem dX5_shipLine_253 : decode cX5_shipLine 253 = .ok (.iadd, 1) := by decide +kernel
theorem dX5_shipLine_254 : decode cX5_shipLine 254 = .ok (.iastore, 1) := by decide +kernel
theorem dX5_shipLine_255 : decode cX5_shipLine 255 = .ok (.return_, 1) := by decide +kernel
theorem dX5_claimLine_0 : decode cX5_claimLine 0 = .ok (.aload_n 0, 1) := by decide +kernel
theorem dX5_claimLine_1 : decode cX5_claimLine 1 = .ok (.getfield 20, 3) := by decide +kernel
theorem dX5_claimLine_4 : decode cX5_claimLine 4 = .ok (.iconst 1, 1) := by decide +kernel
theorem dX5_claimLine_5 : decode cX5_claimLine 5 = .ok (.iaload, 1) := by decide +kernel
theorem dX5_claimLine_6 : decode cX5_claimLine 6 = .ok (.istore_n 2, 1) := by decide +kernel
theorem dX5_claimLine_7 : decode cX5_claimLine 7 = .ok (.iload_n 2, 1) := by decide +kernel
theorem dX5_claimLine_8 : decode cX5_claimLine 8 = .ok (.bipush 12, 2) := by decide +kernel
theorem dX5_claimLine_10 : decode cX5_claimLine 10 = .ok (.if_icmp .ne 8, 3) := by decide +kernel
theorem dX5_claimLine_13 : decode cX5_claimLine 13 = .ok (.aload_n 0, 1) := by decide +kernel
theorem dX5_claimLine_14 : decode cX5_claimLine 14 = .ok (.iconst 4, 1) := by decide +kernel
theorem dX5_claimLine_15 : decode cX5_claimLine 15 = .ok (.invokevirtual 154, 3) := by decide +kernel
theorem dX5_claimLine_18 : decode cX5_claimLine 18 = .ok (.aload_n 0, 1) := by decide +kernel
theorem dX5_claimLine_19 : decode cX5_claimLine 19 = .ok (.invokevirtual 158, 3) := by decide +kernel
theorem dX5_claimLine_22 : decode cX5_claimLine 22 = .ok (.aload_n 0, 1) := by decide +kernel
theorem dX5_claimLine_23 : decode cX5_claimLine 23 = .ok (.getfield 98, 3) := by decide +kernel
theorem dX5_claimLine_26 : decode cX5_claimLine 26 = .ok (.ifCond .eq 4, 3) := by decide +kernel
theorem dX5_claimLine_29 : decode cX5_claimLine 29 = .ok (.return_, 1) := by decide +kernel
theorem dX5_claimLine_30 : decode cX5_claimLine 30 = .ok (.bipush 34, 2) := by decide +kernel
theorem dX5_claimLine_32 : decode cX5_claimLine 32 = .ok (.iconst 4, 1) := by decide +kernel
theorem dX5_claimLine_33 : decode cX5_claimLine 33 = .ok (.iload_n 2, 1) := by decide +kernel
theorem dX5_claimLine_34 : decode cX5_claimLine 34 = .ok (.imul, 1) := by decide +kernel
theorem dX5_claimLine_35 : decode cX5_claimLine 35 = .ok (.iadd, 1) := by decide +kernel
theorem dX5_claimLine_36 : decode cX5_claimLine 36 = .ok (.istore_n 3, 1) := by decide +kernel
theorem dX5_claimLine_37 : decode cX5_claimLine 37 = .ok (.aload_n 0, 1) := by decide +kernel
theorem dX5_claimLine_38 : decode cX5_claimLine 38 = .ok (.getfield 20, 3) := by decide +kernel
theorem dX5_claimLine_41 : decode cX5_claimLine 41 = .ok (.iload_n 3, 1) := by decide +kernel
theorem dX5_claimLine_42 : decode cX5_claimLine 42 = .ok (.iconst 0, 1) := by decide +kernel
theorem dX5_claimLine_43 : decode cX5_claimLine 43 = .ok (.iadd, 1) := by decide +kernel
theorem dX5_claimLine_44 : decode cX5_claimLine 44 = .ok (.iload_n 1, 1) := by decide +kernel
theorem dX5_claimLine_45 : decode cX5_claimLine 45 = .ok (.iastore, 1) := by decide +kernel
theorem dX5_claimLine_46 : decode cX5_claimLine 46 = .ok (.aload_n 0, 1) := by decide +kernel
theorem dX5_claimLine_47 : decode cX5_claimLine 47 = .ok (.getfield 20, 3) := by decide +kernel
theorem dX5_claimLine_50 : decode cX5_claimLine 50 = .ok (.iload_n 3, 1) := by decide +kernel
theorem dX5_claimLine_51 : decode cX5_claimLine 51 = .ok (.iconst 1, 1) := by decide +kernel
theorem dX5_claimLine_52 : decode cX5_claimLine 52 = .ok (.iadd, 1) := by decide +kernel
theorem dX5_claimLine_53 : decode cX5_claimLine 53 = .ok (.bipush (-2), 2) := by decide +kernel
theorem dX5_claimLine_55 : decode cX5_claimLine 55 = .ok (.iastore, 1) := by decide +kernel
theorem dX5_claimLine_56 : decode cX5_claimLine 56 = .ok (.iload_n 1, 1) := by decide +kernel
theorem dX5_claimLine_57 : decode cX5_claimLine 57 = .ok (.ifCond .ne 47, 3) := by decide +kernel
theorem dX5_claimLine_60 : decode cX5_claimLine 60 = .ok (.aload_n 0, 1) := by decide +kernel
theorem dX5_claimLine_61 : decode cX5_claimLine 61 = .ok (.invokevirtual 165, 3) := by decide +kernel
theorem dX5_claimLine_64 : decode cX5_claimLine 64 = .ok (.ifCond .ne 11, 3) := by decide +kernel
theorem dX5_claimLine_67 : decode cX5_claimLine 67 = .ok (.aload_n 0, 1) := by decide +kernel
theorem dX5_claimLine_68 : decode cX5_claimLine 68 = .ok (.iconst 1, 1) := by decide +kernel
theorem dX5_claimLine_69 : decode cX5_claimLine 69 = .ok (.invokevirtual 154, 3) := by decide +kernel
theorem dX5_claimLine_72 : decode cX5_claimLine 72 = .ok (.goto 16, 3) := by decide +kernel
theorem dX5_claimLine_75 : decode cX5_claimLine 75 = .ok (.aload_n 0, 1) := by decide +kernel
theorem dX5_claimLine_76 : decode cX5_claimLine 76 = .ok (.invokevirtual 169, 3) := by decide +kernel
theorem dX5_claimLine_79 : decode cX5_claimLine 79 = .ok (.iconst (-1), 1) := by decide +kernel
theorem dX5_claimLine_80 : decode cX5_claimLine 80 = .ok (.if_icmp .ne 8, 3) := by decide +kernel
theorem dX5_claimLine_83 : decode cX5_claimLine 83 = .ok (.aload_n 0, 1) := by decide +kernel
theorem dX5_claimLine_84 : decode cX5_claimLine 84 = .ok (.iconst 3, 1) := by decide +kernel
theorem dX5_claimLine_85 : decode cX5_claimLine 85 = .ok (.invokevirtual 154, 3) := by decide +kernel
theorem dX5_claimLine_88 : decode cX5_claimLine 88 = .ok (.aload_n 0, 1) := by decide +kernel
theorem dX5_claimLine_89 : decode cX5_claimLine 89 = .ok (.getfield 20, 3) := by decide +kernel
theorem dX5_claimLine_92 : decode cX5_claimLine 92 = .ok (.iload_n 3, 1) := by decide +kernel
theorem dX5_claimLine_93 : decode cX5_claimLine 93 = .ok (.iconst 1, 1) := by decide +kernel
theorem dX5_claimLine_94 : decode cX5_claimLine 94 = .ok (.iadd, 1) := by decide +kernel
theorem dX5_claimLine_95 : decode cX5_claimLine 95 = .ok (.aload_n 0, 1) := by decide +kernel
theorem dX5_claimLine_96 : decode cX5_claimLine 96 = .ok (.invokevirtual 169, 3) := by decide +kernel
theorem dX5_claimLine_99 : decode cX5_claimLine 99 = .ok (.iastore, 1) := by decide +kernel
theorem dX5_claimLine_100 : decode cX5_claimLine 100 = .ok (.aload_n 0, 1) := by decide +kernel
theorem dX5_claimLine_101 : decode cX5_claimLine 101 = .ok (.invokevirtual 158, 3) := by decide +kernel
theorem dX5_claimLine_104 : decode cX5_claimLine 104 = .ok (.aload_n 0, 1) := by decide +kernel
theorem dX5_claimLine_105 : decode cX5_claimLine 105 = .ok (.getfield 20, 3) := by decide +kernel
theorem dX5_claimLine_108 : decode cX5_claimLine 108 = .ok (.iload_n 3, 1) := by decide +kernel
theorem dX5_claimLine_109 : decode cX5_claimLine 109 = .ok (.iconst 2, 1) := by decide +kernel
theorem dX5_claimLine_110 : decode cX5_claimLine 110 = .ok (.iadd, 1) := by decide +kernel
theorem dX5_claimLine_111 : decode cX5_claimLine 111 = .ok (.aload_n 0, 1) := by decide +kernel
theorem dX5_claimLine_112 : decode cX5_claimLine 112 = .ok (.iconst 1, 1) := by decide +kernel
theorem dX5_claimLine_113 : decode cX5_claimLine 113 = .ok (.ldc 181, 2) := by decide +kernel
theorem dX5_claimLine_115 : decode cX5_claimLine 115 = .ok (.invokevirtual 177, 3) := by decide +kernel
theorem dX5_claimLine_118 : decode cX5_claimLine 118 = .ok (.iastore, 1) := by decide +kernel
theorem dX5_claimLine_119 : decode cX5_claimLine 119 = .ok (.aload_n 0, 1) := by decide +kernel
theorem dX5_claimLine_120 : decode cX5_claimLine 120 = .ok (.invokestatic 151, 3) := by decide +kernel
theorem dX5_claimLine_123 : decode cX5_claimLine 123 = .ok (.invokevirtual 172, 3) := by decide +kernel
theorem dX5_claimLine_126 : decode cX5_claimLine 126 = .ok (.aload_n 0, 1) := by decide +kernel
theorem dX5_claimLine_127 : decode cX5_claimLine 127 = .ok (.getfield 20, 3) := by decide +kernel
theorem dX5_claimLine_130 : decode cX5_claimLine 130 = .ok (.iload_n 3, 1) := by decide +kernel
theorem dX5_claimLine_131 : decode cX5_claimLine 131 = .ok (.iconst 3, 1) := by decide +kernel
theorem dX5_claimLine_132 : decode cX5_claimLine 132 = .ok (.iadd, 1) := by decide +kernel
theorem dX5_claimLine_133 : decode cX5_claimLine 133 = .ok (.aload_n 0, 1) := by decide +kernel
theorem dX5_claimLine_134 : decode cX5_claimLine 134 = .ok (.iconst 0, 1) := by decide +kernel
theorem dX5_claimLine_135 : decode cX5_claimLine 135 = .ok (.sipush 999, 3) := by decide +kernel
theorem dX5_claimLine_138 : decode cX5_claimLine 138 = .ok (.invokevirtual 177, 3) := by decide +kernel
theorem dX5_claimLine_141 : decode cX5_claimLine 141 = .ok (.iastore, 1) := by decide +kernel
theorem dX5_claimLine_142 : decode cX5_claimLine 142 = .ok (.aload_n 0, 1) := by decide +kernel
theorem dX5_claimLine_143 : decode cX5_claimLine 143 = .ok (.getfield 20, 3) := by decide +kernel
theorem dX5_claimLine_146 : decode cX5_claimLine 146 = .ok (.iconst 1, 1) := by decide +kernel
theorem dX5_claimLine_147 : decode cX5_claimLine 147 = .ok (.dup2, 1) := by decide +kernel
theorem dX5_claimLine_148 : decode cX5_claimLine 148 = .ok (.iaload, 1) := by decide +kernel
theorem dX5_claimLine_149 : decode cX5_claimLine 149 = .ok (.iconst 1, 1) := by decide +kernel
theorem dX5_claimLine_150 : decode cX5_claimLine 150 = .ok (.iadd, 1) := by decide +kernel
theorem dX5_claimLine_151 : decode cX5_claimLine 151 = .ok (.iastore, 1) := by decide +kernel
theorem dX5_claimLine_152 : decode cX5_claimLine 152 = .ok (.return_, 1) := by decide +kernel
theorem dX5_lowOf_0 : decode cX5_lowOf 0 = .ok (.iload_n 0, 1) := by decide +kernel
theorem dX5_lowOf_1 : decode cX5_lowOf 1 = .ok (.bipush 7, 2) := by decide +kernel
theorem dX5_lowOf_3 : decode cX5_lowOf 3 = .ok (.if_icmp .ne 7, 3) := by decide +kernel
theorem dX5_lowOf_6 : decode cX5_lowOf 6 = .ok (.iconst 1, 1) := by decide +kernel
theorem dX5_lowOf_7 : decode cX5_lowOf 7 = .ok (.goto 4, 3) := by decide +kernel
theorem dX5_lowOf_10 : decode cX5_lowOf 10 = .ok (.iconst 0, 1) := by decide +kernel
theorem dX5_lowOf_11 : decode cX5_lowOf 11 = .ok (.ireturn, 1) := by decide +kernel
theorem dX5_highOf_0 : decode cX5_highOf 0 = .ok (.iload_n 0, 1) := by decide +kernel
theorem dX5_highOf_1 : decode cX5_highOf 1 = .ok (.iconst 5, 1) := by decide +kernel
theorem dX5_highOf_2 : decode cX5_highOf 2 = .ok (.if_icmp .ge 5, 3) := by decide +kernel
theorem dX5_highOf_5 : decode cX5_highOf 5 = .ok (.iconst 1, 1) := by decide +kernel
theorem dX5_highOf_6 : decode cX5_highOf 6 = .ok (.ireturn, 1) := by decide +kernel
theorem dX5_highOf_7 : decode cX5_highOf 7 = .ok (.iload_n 0, 1) := by decide +kernel
theorem dX5_highOf_8 : decode cX5_highOf 8 = .ok (.bipush 8, 2) := by decide +kernel
theorem dX5_highOf_10 : decode cX5_highOf 10 = .ok (.if_icmp .ge 8, 3) := by decide +kernel
theorem dX5_highOf_13 : decode cX5_highOf 13 = .ok (.ldc 176, 2) := by decide +kernel
theorem dX5_highOf_15 : decode cX5_highOf 15 = .ok (.goto 6, 3) := by decide +kernel
theorem dX5_highOf_18 : decode cX5_highOf 18 = .ok (.sipush 999, 3) := by decide +kernel
theorem dX5_highOf_21 : decode cX5_highOf 21 = .ok (.ireturn, 1) := by decide +kernel
theorem dX5_aboutLine_0 : decode cX5_aboutLine 0 = .ok (.aload_n 0, 1) := by decide +kernel
theorem dX5_aboutLine_1 : decode cX5_aboutLine 1 = .ok (.getfield 182, 3) := by decide +kernel
theorem dX5_aboutLine_4 : decode cX5_aboutLine 4 = .ok (.iload_n 1, 1) := by decide +kernel
theorem dX5_aboutLine_5 : decode cX5_aboutLine 5 = .ok (.ishr, 1) := by decide +kernel
theorem dX5_aboutLine_6 : decode cX5_aboutLine 6 = .ok (.iconst 1, 1) := by decide +kernel
theorem dX5_aboutLine_7 : decode cX5_aboutLine 7 = .ok (.iand, 1) := by decide +kernel
theorem dX5_aboutLine_8 : decode cX5_aboutLine 8 = .ok (.iconst 1, 1) := by decide +kernel
theorem dX5_aboutLine_9 : decode cX5_aboutLine 9 = .ok (.if_icmp .ne 8, 3) := by decide +kernel
theorem dX5_aboutLine_12 : decode cX5_aboutLine 12 = .ok (.aload_n 0, 1) := by decide +kernel
theorem dX5_aboutLine_13 : decode cX5_aboutLine 13 = .ok (.iconst 3, 1) := by decide +kernel
theorem dX5_aboutLine_14 : decode cX5_aboutLine 14 = .ok (.invokevirtual 154, 3) := by decide +kernel
theorem dX5_aboutLine_17 : decode cX5_aboutLine 17 = .ok (.aload_n 0, 1) := by decide +kernel
theorem dX5_aboutLine_18 : decode cX5_aboutLine 18 = .ok (.dup, 1) := by decide +kernel
theorem dX5_aboutLine_19 : decode cX5_aboutLine 19 = .ok (.getfield 182, 3) := by decide +kernel
theorem dX5_aboutLine_22 : decode cX5_aboutLine 22 = .ok (.iconst 1, 1) := by decide +kernel
theorem dX5_aboutLine_23 : decode cX5_aboutLine 23 = .ok (.iload_n 1, 1) := by decide +kernel
theorem dX5_aboutLine_24 : decode cX5_aboutLine 24 = .ok (.ishl, 1) := by decide +kernel
theorem dX5_aboutLine_25 : decode cX5_aboutLine 25 = .ok (.ior, 1) := by decide +kernel
theorem dX5_aboutLine_26 : decode cX5_aboutLine 26 = .ok (.putfield 182, 3) := by decide +kernel
theorem dX5_aboutLine_29 : decode cX5_aboutLine 29 = .ok (.aload_n 0, 1) := by decide +kernel
theorem dX5_aboutLine_30 : decode cX5_aboutLine 30 = .ok (.invokevirtual 158, 3) := by decide +kernel
theorem dX5_aboutLine_33 : decode cX5_aboutLine 33 = .ok (.aload_n 0, 1) := by decide +kernel
theorem dX5_aboutLine_34 : decode cX5_aboutLine 34 = .ok (.getfield 98, 3) := by decide +kernel
theorem dX5_aboutLine_37 : decode cX5_aboutLine 37 = .ok (.ifCond .eq 4, 3) := by decide +kernel
theorem dX5_aboutLine_40 : decode cX5_aboutLine 40 = .ok (.return_, 1) := by decide +kernel
theorem dX5_aboutLine_41 : decode cX5_aboutLine 41 = .ok (.aload_n 0, 1) := by decide +kernel
theorem dX5_aboutLine_42 : decode cX5_aboutLine 42 = .ok (.getfield 20, 3) := by decide +kernel
theorem dX5_aboutLine_45 : decode cX5_aboutLine 45 = .ok (.iload_n 1, 1) := by decide +kernel
theorem dX5_aboutLine_46 : decode cX5_aboutLine 46 = .ok (.iload_n 1, 1) := by decide +kernel
theorem dX5_aboutLine_47 : decode cX5_aboutLine 47 = .ok (.iconst 5, 1) := by decide +kernel
theorem dX5_aboutLine_48 : decode cX5_aboutLine 48 = .ok (.if_icmp .ge 7, 3) := by decide +kernel
theorem dX5_aboutLine_51 : decode cX5_aboutLine 51 = .ok (.iconst 1, 1) := by decide +kernel
theorem dX5_aboutLine_52 : decode cX5_aboutLine 52 = .ok (.goto 15, 3) := by decide +kernel
theorem dX5_aboutLine_55 : decode cX5_aboutLine 55 = .ok (.aload_n 0, 1) := by decide +kernel
theorem dX5_aboutLine_56 : decode cX5_aboutLine 56 = .ok (.iload_n 1, 1) := by decide +kernel
theorem dX5_aboutLine_57 : decode cX5_aboutLine 57 = .ok (.invokestatic 185, 3) := by decide +kernel
theorem dX5_aboutLine_60 : decode cX5_aboutLine 60 = .ok (.iload_n 1, 1) := by decide +kernel
theorem dX5_aboutLine_61 : decode cX5_aboutLine 61 = .ok (.invokestatic 188, 3) := by decide +kernel
theorem dX5_aboutLine_64 : decode cX5_aboutLine 64 = .ok (.invokevirtual 177, 3) := by decide +kernel
theorem dX5_aboutLine_67 : decode cX5_aboutLine 67 = .ok (.iastore, 1) := by decide +kernel
theorem dX5_aboutLine_68 : decode cX5_aboutLine 68 = .ok (.return_, 1) := by decide +kernel
theorem dX5_line_0 : decode cX5_line 0 = .ok (.aload_n 0, 1) := by decide +kernel
theorem dX5_line_1 : decode cX5_line 1 = .ok (.invokevirtual 119, 3) := by decide +kernel
theorem dX5_line_4 : decode cX5_line 4 = .ok (.istore_n 1, 1) := by decide +kernel
theorem dX5_line_5 : decode cX5_line 5 = .ok (.aload_n 0, 1) := by decide +kernel
theorem dX5_line_6 : decode cX5_line 6 = .ok (.invokestatic 123, 3) := by decide +kernel
theorem dX5_line_9 : decode cX5_line 9 = .ok (.invokevirtual 115, 3) := by decide +kernel
theorem dX5_line_12 : decode cX5_line 12 = .ok (.ifCond .eq 10, 3) := by decide +kernel
theorem dX5_line_15 : decode cX5_line 15 = .ok (.aload_n 0, 1) := by decide +kernel
theorem dX5_line_16 : decode cX5_line 16 = .ok (.invokevirtual 191, 3) := by decide +kernel
theorem dX5_line_19 : decode cX5_line 19 = .ok (.goto 75, 3) := by decide +kernel
theorem dX5_line_22 : decode cX5_line 22 = .ok (.aload_n 0, 1) := by decide +kernel
theorem dX5_line_23 : decode cX5_line 23 = .ok (.invokestatic 145, 3) := by decide +kernel
theorem dX5_line_26 : decode cX5_line 26 = .ok (.invokevirtual 115, 3) := by decide +kernel
theorem dX5_line_29 : decode cX5_line 29 = .ok (.ifCond .eq 11, 3) := by decide +kernel
theorem dX5_line_32 : decode cX5_line 32 = .ok (.aload_n 0, 1) := by decide +kernel
theorem dX5_line_33 : decode cX5_line 33 = .ok (.iconst 0, 1) := by decide +kernel
theorem dX5_line_34 : decode cX5_line 34 = .ok (.invokevirtual 194, 3) := by decide +kernel
theorem dX5_line_37 : decode cX5_line 37 = .ok (.goto 57, 3) := by decide +kernel
theorem dX5_line_40 : decode cX5_line 40 = .ok (.aload_n 0, 1) := by decide +kernel
theorem dX5_line_41 : decode cX5_line 41 = .ok (.invokestatic 197, 3) := by decide +kernel
theorem dX5_line_44 : decode cX5_line 44 = .ok (.invokevirtual 115, 3) := by decide +kernel
theorem dX5_line_47 : decode cX5_line 47 = .ok (.ifCond .eq 11, 3) := by decide +kernel
theorem dX5_line_50 : decode cX5_line 50 = .ok (.aload_n 0, 1) := by decide +kernel
theorem dX5_line_51 : decode cX5_line 51 = .ok (.iconst 1, 1) := by decide +kernel
theorem dX5_line_52 : decode cX5_line 52 = .ok (.invokevirtual 194, 3) := by decide +kernel
theorem dX5_line_55 : decode cX5_line 55 = .ok (.goto 39, 3) := by decide +kernel
theorem dX5_line_58 : decode cX5_line 58 = .ok (.aload_n 0, 1) := by decide +kernel
theorem dX5_line_59 : decode cX5_line 59 = .ok (.invokestatic 148, 3) := by decide +kernel
theorem dX5_line_62 : decode cX5_line 62 = .ok (.invokevirtual 115, 3) := by decide +kernel
theorem dX5_line_65 : decode cX5_line 65 = .ok (.ifCond .eq 11, 3) := by decide +kernel
theorem dX5_line_68 : decode cX5_line 68 = .ok (.aload_n 0, 1) := by decide +kernel
theorem dX5_line_69 : decode cX5_line 69 = .ok (.iconst 2, 1) := by decide +kernel
theorem dX5_line_70 : decode cX5_line 70 = .ok (.invokevirtual 194, 3) := by decide +kernel
theorem dX5_line_73 : decode cX5_line 73 = .ok (.goto 21, 3) := by decide +kernel
theorem dX5_line_76 : decode cX5_line 76 = .ok (.iload_n 1, 1) := by decide +kernel
theorem dX5_line_77 : decode cX5_line 77 = .ok (.iconst (-1), 1) := by decide +kernel
theorem dX5_line_78 : decode cX5_line 78 = .ok (.if_icmp .eq 11, 3) := by decide +kernel
theorem dX5_line_81 : decode cX5_line 81 = .ok (.aload_n 0, 1) := by decide +kernel
theorem dX5_line_82 : decode cX5_line 82 = .ok (.iload_n 1, 1) := by decide +kernel
theorem dX5_line_83 : decode cX5_line 83 = .ok (.invokevirtual 200, 3) := by decide +kernel
theorem dX5_line_86 : decode cX5_line 86 = .ok (.goto 8, 3) := by decide +kernel
theorem dX5_line_89 : decode cX5_line 89 = .ok (.aload_n 0, 1) := by decide +kernel
theorem dX5_line_90 : decode cX5_line 90 = .ok (.iconst 1, 1) := by decide +kernel
theorem dX5_line_91 : decode cX5_line 91 = .ok (.invokevirtual 154, 3) := by decide +kernel
theorem dX5_line_94 : decode cX5_line 94 = .ok (.return_, 1) := by decide +kernel
theorem dX5_plain_0 : decode cX5_plain 0 = .ok (.iconst 0, 1) := by decide +kernel
theorem dX5_plain_1 : decode cX5_plain 1 = .ok (.istore_n 1, 1) := by decide +kernel
theorem dX5_plain_2 : decode cX5_plain 2 = .ok (.iload_n 1, 1) := by decide +kernel
theorem dX5_plain_3 : decode cX5_plain 3 = .ok (.bipush 82, 2) := by decide +kernel
theorem dX5_plain_5 : decode cX5_plain 5 = .ok (.if_icmp .ge 16, 3) := by decide +kernel
theorem dX5_plain_8 : decode cX5_plain 8 = .ok (.aload_n 0, 1) := by decide +kernel
theorem dX5_plain_9 : decode cX5_plain 9 = .ok (.getfield 20, 3) := by decide +kernel
theorem dX5_plain_12 : decode cX5_plain 12 = .ok (.iload_n 1, 1) := by decide +kernel
theorem dX5_plain_13 : decode cX5_plain 13 = .ok (.iconst 0, 1) := by decide +kernel
theorem dX5_plain_14 : decode cX5_plain 14 = .ok (.iastore, 1) := by decide +kernel
theorem dX5_plain_15 : decode cX5_plain 15 = .ok (.iinc 1 1, 3) := by decide +kernel
theorem dX5_plain_18 : decode cX5_plain 18 = .ok (.goto (-16), 3) := by decide +kernel
theorem dX5_plain_21 : decode cX5_plain 21 = .ok (.aload_n 0, 1) := by decide +kernel
theorem dX5_plain_22 : decode cX5_plain 22 = .ok (.getfield 20, 3) := by decide +kernel
theorem dX5_plain_25 : decode cX5_plain 25 = .ok (.iconst 5, 1) := by decide +kernel
theorem dX5_plain_26 : decode cX5_plain 26 = .ok (.bipush 100, 2) := by decide +kernel
theorem dX5_plain_28 : decode cX5_plain 28 = .ok (.iastore, 1) := by decide +kernel
theorem dX5_plain_29 : decode cX5_plain 29 = .ok (.aload_n 0, 1) := by decide +kernel
theorem dX5_plain_30 : decode cX5_plain 30 = .ok (.getfield 20, 3) := by decide +kernel
theorem dX5_plain_33 : decode cX5_plain 33 = .ok (.bipush 6, 2) := by decide +kernel
theorem dX5_plain_35 : decode cX5_plain 35 = .ok (.sipush 200, 3) := by decide +kernel
theorem dX5_plain_38 : decode cX5_plain 38 = .ok (.iastore, 1) := by decide +kernel
theorem dX5_plain_39 : decode cX5_plain 39 = .ok (.aload_n 0, 1) := by decide +kernel
theorem dX5_plain_40 : decode cX5_plain 40 = .ok (.getfield 20, 3) := by decide +kernel
theorem dX5_plain_43 : decode cX5_plain 43 = .ok (.bipush 7, 2) := by decide +kernel
theorem dX5_plain_45 : decode cX5_plain 45 = .ok (.sipush 300, 3) := by decide +kernel
theorem dX5_plain_48 : decode cX5_plain 48 = .ok (.iastore, 1) := by decide +kernel
theorem dX5_plain_49 : decode cX5_plain 49 = .ok (.aload_n 0, 1) := by decide +kernel
theorem dX5_plain_50 : decode cX5_plain 50 = .ok (.getfield 20, 3) := by decide +kernel
theorem dX5_plain_53 : decode cX5_plain 53 = .ok (.bipush 8, 2) := by decide +kernel
theorem dX5_plain_55 : decode cX5_plain 55 = .ok (.sipush 365, 3) := by decide +kernel
theorem dX5_plain_58 : decode cX5_plain 58 = .ok (.iastore, 1) := by decide +kernel
theorem dX5_plain_59 : decode cX5_plain 59 = .ok (.aload_n 0, 1) := by decide +kernel
theorem dX5_plain_60 : decode cX5_plain 60 = .ok (.getfield 20, 3) := by decide +kernel
theorem dX5_plain_63 : decode cX5_plain 63 = .ok (.bipush 9, 2) := by decide +kernel
theorem dX5_plain_65 : decode cX5_plain 65 = .ok (.sipush 730, 3) := by decide +kernel
theorem dX5_plain_68 : decode cX5_plain 68 = .ok (.iastore, 1) := by decide +kernel
theorem dX5_plain_69 : decode cX5_plain 69 = .ok (.aload_n 0, 1) := by decide +kernel
theorem dX5_plain_70 : decode cX5_plain 70 = .ok (.iconst 0, 1) := by decide +kernel
theorem dX5_plain_71 : decode cX5_plain 71 = .ok (.putfield 182, 3) := by decide +kernel
theorem dX5_plain_74 : decode cX5_plain 74 = .ok (.return_, 1) := by decide +kernel
theorem dX5_tenths_0 : decode cX5_tenths 0 = .ok (.iconst 0, 1) := by decide +kernel
theorem dX5_tenths_1 : decode cX5_tenths 1 = .ok (.istore_n 1, 1) := by decide +kernel
theorem dX5_tenths_2 : decode cX5_tenths 2 = .ok (.iconst 0, 1) := by decide +kernel
theorem dX5_tenths_3 : decode cX5_tenths 3 = .ok (.istore_n 2, 1) := by decide +kernel
theorem dX5_tenths_4 : decode cX5_tenths 4 = .ok (.iload_n 2, 1) := by decide +kernel
theorem dX5_tenths_5 : decode cX5_tenths 5 = .ok (.aload_n 0, 1) := by decide +kernel
theorem dX5_tenths_6 : decode cX5_tenths 6 = .ok (.getfield 20, 3) := by decide +kernel
theorem dX5_tenths_9 : decode cX5_tenths 9 = .ok (.iconst 0, 1) := by decide +kernel
theorem dX5_tenths_10 : decode cX5_tenths 10 = .ok (.iaload, 1) := by decide +kernel
theorem dX5_tenths_11 : decode cX5_tenths 11 = .ok (.if_icmp .ge 26, 3) := by decide +kernel
theorem dX5_tenths_14 : decode cX5_tenths 14 = .ok (.iload_n 1, 1) := by decide +kernel
theorem dX5_tenths_15 : decode cX5_tenths 15 = .ok (.aload_n 0, 1) := by decide +kernel
theorem dX5_tenths_16 : decode cX5_tenths 16 = .ok (.getfield 20, 3) := by decide +kernel
theorem dX5_tenths_19 : decode cX5_tenths 19 = .ok (.bipush 10, 2) := by decide +kernel
theorem dX5_tenths_21 : decode cX5_tenths 21 = .ok (.bipush 6, 2) := by decide +kernel
theorem dX5_tenths_23 : decode cX5_tenths 23 = .ok (.iload_n 2, 1) := by decide +kernel
theorem dX5_tenths_24 : decode cX5_tenths 24 = .ok (.imul, 1) := by decide +kernel
theorem dX5_tenths_25 : decode cX5_tenths 25 = .ok (.iadd, 1) := by decide +kernel
theorem dX5_tenths_26 : decode cX5_tenths 26 = .ok (.iconst 1, 1) := by decide +kernel
theorem dX5_tenths_27 : decode cX5_tenths 27 = .ok (.iadd, 1) := by decide +kernel
theorem dX5_tenths_28 : decode cX5_tenths 28 = .ok (.iaload, 1) := by decide +kernel
theorem dX5_tenths_29 : decode cX5_tenths 29 = .ok (.iadd, 1) := by decide +kernel
theorem dX5_tenths_30 : decode cX5_tenths 30 = .ok (.istore_n 1, 1) := by decide +kernel
theorem dX5_tenths_31 : decode cX5_tenths 31 = .ok (.iinc 2 1, 3) := by decide +kernel
theorem dX5_tenths_34 : decode cX5_tenths 34 = .ok (.goto (-30), 3) := by decide +kernel
theorem dX5_tenths_37 : decode cX5_tenths 37 = .ok (.iload_n 1, 1) := by decide +kernel
theorem dX5_tenths_38 : decode cX5_tenths 38 = .ok (.ireturn, 1) := by decide +kernel
theorem dX5_reads_0 : decode cX5_reads 0 = .ok (.aload_n 0, 1) := by decide +kernel
theorem dX5_reads_1 : decode cX5_reads 1 = .ok (.iload_n 1, 1) := by decide +kernel
theorem dX5_reads_2 : decode cX5_reads 2 = .ok (.putfield 61, 3) := by decide +kernel
theorem dX5_reads_5 : decode cX5_reads 5 = .ok (.aload_n 0, 1) := by decide +kernel
theorem dX5_reads_6 : decode cX5_reads 6 = .ok (.iconst 0, 1) := by decide +kernel
theorem dX5_reads_7 : decode cX5_reads 7 = .ok (.putfield 64, 3) := by decide +kernel
theorem dX5_reads_10 : decode cX5_reads 10 = .ok (.aload_n 0, 1) := by decide +kernel
theorem dX5_reads_11 : decode cX5_reads 11 = .ok (.iconst 0, 1) := by decide +kernel
theorem dX5_reads_12 : decode cX5_reads 12 = .ok (.putfield 98, 3) := by decide +kernel
theorem dX5_reads_15 : decode cX5_reads 15 = .ok (.aload_n 0, 1) := by decide +kernel
theorem dX5_reads_16 : decode cX5_reads 16 = .ok (.iconst (-1), 1) := by decide +kernel
theorem dX5_reads_17 : decode cX5_reads 17 = .ok (.putfield 101, 3) := by decide +kernel
theorem dX5_reads_20 : decode cX5_reads 20 = .ok (.aload_n 0, 1) := by decide +kernel
theorem dX5_reads_21 : decode cX5_reads 21 = .ok (.invokevirtual 203, 3) := by decide +kernel
theorem dX5_reads_24 : decode cX5_reads 24 = .ok (.aload_n 0, 1) := by decide +kernel
theorem dX5_reads_25 : decode cX5_reads 25 = .ok (.invokevirtual 104, 3) := by decide +kernel
theorem dX5_reads_28 : decode cX5_reads 28 = .ok (.iconst 1, 1) := by decide +kernel
theorem dX5_reads_29 : decode cX5_reads 29 = .ok (.istore_n 2, 1) := by decide +kernel
theorem dX5_reads_30 : decode cX5_reads 30 = .ok (.iload_n 2, 1) := by decide +kernel
theorem dX5_reads_31 : decode cX5_reads 31 = .ok (.ifCond .eq 46, 3) := by decide +kernel
theorem dX5_reads_34 : decode cX5_reads 34 = .ok (.aload_n 0, 1) := by decide +kernel
theorem dX5_reads_35 : decode cX5_reads 35 = .ok (.getfield 98, 3) := by decide +kernel
theorem dX5_reads_38 : decode cX5_reads 38 = .ok (.ifCond .ne 39, 3) := by decide +kernel
theorem dX5_reads_41 : decode cX5_reads 41 = .ok (.aload_n 0, 1) := by decide +kernel
theorem dX5_reads_42 : decode cX5_reads 42 = .ok (.invokevirtual 206, 3) := by decide +kernel
theorem dX5_reads_45 : decode cX5_reads 45 = .ok (.aload_n 0, 1) := by decide +kernel
theorem dX5_reads_46 : decode cX5_reads 46 = .ok (.getfield 98, 3) := by decide +kernel
theorem dX5_reads_49 : decode cX5_reads 49 = .ok (.ifCond .ne 15, 3) := by decide +kernel
theorem dX5_reads_52 : decode cX5_reads 52 = .ok (.aload_n 0, 1) := by decide +kernel
theorem dX5_reads_53 : decode cX5_reads 53 = .ok (.getfield 77, 3) := by decide +kernel
theorem dX5_reads_56 : decode cX5_reads 56 = .ok (.iconst 3, 1) := by decide +kernel
theorem dX5_reads_57 : decode cX5_reads 57 = .ok (.if_icmp .ne 7, 3) := by decide +kernel
theorem dX5_reads_60 : decode cX5_reads 60 = .ok (.iconst 1, 1) := by decide +kernel
theorem dX5_reads_61 : decode cX5_reads 61 = .ok (.goto 4, 3) := by decide +kernel
theorem dX5_reads_64 : decode cX5_reads 64 = .ok (.iconst 0, 1) := by decide +kernel
theorem dX5_reads_65 : decode cX5_reads 65 = .ok (.istore_n 2, 1) := by decide +kernel
theorem dX5_reads_66 : decode cX5_reads 66 = .ok (.iload_n 2, 1) := by decide +kernel
theorem dX5_reads_67 : decode cX5_reads 67 = .ok (.ifCond .eq (-37), 3) := by decide +kernel
theorem dX5_reads_70 : decode cX5_reads 70 = .ok (.aload_n 0, 1) := by decide +kernel
theorem dX5_reads_71 : decode cX5_reads 71 = .ok (.invokevirtual 104, 3) := by decide +kernel
theorem dX5_reads_74 : decode cX5_reads 74 = .ok (.goto (-44), 3) := by decide +kernel
theorem dX5_reads_77 : decode cX5_reads 77 = .ok (.aload_n 0, 1) := by decide +kernel
theorem dX5_reads_78 : decode cX5_reads 78 = .ok (.getfield 77, 3) := by decide +kernel
theorem dX5_reads_81 : decode cX5_reads 81 = .ok (.ifCond .eq 8, 3) := by decide +kernel
theorem dX5_reads_84 : decode cX5_reads 84 = .ok (.aload_n 0, 1) := by decide +kernel
theorem dX5_reads_85 : decode cX5_reads 85 = .ok (.iconst 1, 1) := by decide +kernel
theorem dX5_reads_86 : decode cX5_reads 86 = .ok (.invokevirtual 154, 3) := by decide +kernel
theorem dX5_reads_89 : decode cX5_reads 89 = .ok (.aload_n 0, 1) := by decide +kernel
theorem dX5_reads_90 : decode cX5_reads 90 = .ok (.getfield 20, 3) := by decide +kernel
theorem dX5_reads_93 : decode cX5_reads 93 = .ok (.iconst 0, 1) := by decide +kernel
theorem dX5_reads_94 : decode cX5_reads 94 = .ok (.iaload, 1) := by decide +kernel
theorem dX5_reads_95 : decode cX5_reads 95 = .ok (.iconst 2, 1) := by decide +kernel
theorem dX5_reads_96 : decode cX5_reads 96 = .ok (.if_icmp .lt 29, 3) := by decide +kernel
theorem dX5_reads_99 : decode cX5_reads 99 = .ok (.aload_n 0, 1) := by decide +kernel
theorem dX5_reads_100 : decode cX5_reads 100 = .ok (.invokevirtual 209, 3) := by decide +kernel
theorem dX5_reads_103 : decode cX5_reads 103 = .ok (.bipush 10, 2) := by decide +kernel
theorem dX5_reads_105 : decode cX5_reads 105 = .ok (.if_icmp .ne 20, 3) := by decide +kernel
theorem dX5_reads_108 : decode cX5_reads 108 = .ok (.aload_n 0, 1) := by decide +kernel
theorem dX5_reads_109 : decode cX5_reads 109 = .ok (.getfield 20, 3) := by decide +kernel
theorem dX5_reads_112 : decode cX5_reads 112 = .ok (.bipush 9, 2) := by decide +kernel
theorem dX5_reads_114 : decode cX5_reads 114 = .ok (.iaload, 1) := by decide +kernel
theorem dX5_reads_115 : decode cX5_reads 115 = .ok (.aload_n 0, 1) := by decide +kernel
theorem dX5_reads_116 : decode cX5_reads 116 = .ok (.getfield 20, 3) := by decide +kernel
theorem dX5_reads_119 : decode cX5_reads 119 = .ok (.bipush 8, 2) := by decide +kernel
theorem dX5_reads_121 : decode cX5_reads 121 = .ok (.iaload, 1) := by decide +kernel
theorem dX5_reads_122 : decode cX5_reads 122 = .ok (.if_icmp .ge 8, 3) := by decide +kernel
theorem dX5_reads_125 : decode cX5_reads 125 = .ok (.aload_n 0, 1) := by decide +kernel
theorem dX5_reads_126 : decode cX5_reads 126 = .ok (.iconst 5, 1) := by decide +kernel
theorem dX5_reads_127 : decode cX5_reads 127 = .ok (.invokevirtual 154, 3) := by decide +kernel
theorem dX5_reads_130 : decode cX5_reads 130 = .ok (.return_, 1) := by decide +kernel
theorem dX5_text_0 : decode cX5_text 0 = .ok (.aload_n 0, 1) := by decide +kernel
theorem dX5_text_1 : decode cX5_text 1 = .ok (.invokevirtual 212, 3) := by decide +kernel
theorem dX5_text_4 : decode cX5_text 4 = .ok (.aload_n 0, 1) := by decide +kernel
theorem dX5_text_5 : decode cX5_text 5 = .ok (.iload_n 1, 1) := by decide +kernel
theorem dX5_text_6 : decode cX5_text 6 = .ok (.i2l, 1) := by decide +kernel
theorem dX5_text_7 : decode cX5_text 7 = .ok (.lconst 0, 1) := by decide +kernel
theorem dX5_text_8 : decode cX5_text 8 = .ok (.aload_n 0, 1) := by decide +kernel
theorem dX5_text_9 : decode cX5_text 9 = .ok (.getfield 58, 3) := by decide +kernel
theorem dX5_text_12 : decode cX5_text 12 = .ok (.i2l, 1) := by decide +kernel
theorem dX5_text_13 : decode cX5_text 13 = .ok (.invokestatic 161, 3) := by decide +kernel
theorem dX5_text_16 : decode cX5_text 16 = .ok (.ifCond .ne 7, 3) := by decide +kernel
theorem dX5_text_19 : decode cX5_text 19 = .ok (.iconst 1, 1) := by decide +kernel
theorem dX5_text_20 : decode cX5_text 20 = .ok (.goto 4, 3) := by decide +kernel
theorem dX5_text_23 : decode cX5_text 23 = .ok (.iconst 0, 1) := by decide +kernel
theorem dX5_text_24 : decode cX5_text 24 = .ok (.iconst 2, 1) := by decide +kernel
theorem dX5_text_25 : decode cX5_text 25 = .ok (.invokevirtual 215, 3) := by decide +kernel
theorem dX5_text_28 : decode cX5_text 28 = .ok (.ifCond .eq 5, 3) := by decide +kernel
theorem dX5_text_31 : decode cX5_text 31 = .ok (.iconst (-1), 1) := by decide +kernel
theorem dX5_text_32 : decode cX5_text 32 = .ok (.ireturn, 1) := by decide +kernel
theorem dX5_text_33 : decode cX5_text 33 = .ok (.aload_n 0, 1) := by decide +kernel
theorem dX5_text_34 : decode cX5_text 34 = .ok (.iconst 0, 1) := by decide +kernel
theorem dX5_text_35 : decode cX5_text 35 = .ok (.putfield 58, 3) := by decide +kernel
theorem dX5_text_38 : decode cX5_text 38 = .ok (.aload_n 0, 1) := by decide +kernel
theorem dX5_text_39 : decode cX5_text 39 = .ok (.iload_n 1, 1) := by decide +kernel
theorem dX5_text_40 : decode cX5_text 40 = .ok (.invokevirtual 219, 3) := by decide +kernel
theorem dX5_text_43 : decode cX5_text 43 = .ok (.aload_n 0, 1) := by decide +kernel
theorem dX5_text_44 : decode cX5_text 44 = .ok (.aload_n 0, 1) := by decide +kernel
theorem dX5_text_45 : decode cX5_text 45 = .ok (.getfield 98, 3) := by decide +kernel
theorem dX5_text_48 : decode cX5_text 48 = .ok (.putfield 222, 3) := by decide +kernel
theorem dX5_text_51 : decode cX5_text 51 = .ok (.aload_n 0, 1) := by decide +kernel
theorem dX5_text_52 : decode cX5_text 52 = .ok (.aload_n 0, 1) := by decide +kernel
theorem dX5_text_53 : decode cX5_text 53 = .ok (.getfield 98, 3) := by decide +kernel
theorem dX5_text_56 : decode cX5_text 56 = .ok (.ifCond .eq 7, 3) := by decide +kernel
theorem dX5_text_59 : decode cX5_text 59 = .ok (.iconst 1, 1) := by decide +kernel
theorem dX5_text_60 : decode cX5_text 60 = .ok (.goto 4, 3) := by decide +kernel
theorem dX5_text_63 : decode cX5_text 63 = .ok (.iconst 0, 1) := by decide +kernel
theorem dX5_text_64 : decode cX5_text 64 = .ok (.iconst 4, 1) := by decide +kernel
theorem dX5_text_65 : decode cX5_text 65 = .ok (.invokevirtual 215, 3) := by decide +kernel
theorem dX5_text_68 : decode cX5_text 68 = .ok (.ifCond .eq 13, 3) := by decide +kernel
theorem dX5_text_71 : decode cX5_text 71 = .ok (.aload_n 0, 1) := by decide +kernel
theorem dX5_text_72 : decode cX5_text 72 = .ok (.aload_n 0, 1) := by decide +kernel
theorem dX5_text_73 : decode cX5_text 73 = .ok (.getfield 101, 3) := by decide +kernel
theorem dX5_text_76 : decode cX5_text 76 = .ok (.putfield 9, 3) := by decide +kernel
theorem dX5_text_79 : decode cX5_text 79 = .ok (.iconst (-1), 1) := by decide +kernel
theorem dX5_text_80 : decode cX5_text 80 = .ok (.ireturn, 1) := by decide +kernel
theorem dX5_text_81 : decode cX5_text 81 = .ok (.iconst 0, 1) := by decide +kernel
theorem dX5_text_82 : decode cX5_text 82 = .ok (.istore_n 2, 1) := by decide +kernel
theorem dX5_text_83 : decode cX5_text 83 = .ok (.iload_n 2, 1) := by decide +kernel
theorem dX5_text_84 : decode cX5_text 84 = .ok (.bipush 82, 2) := by decide +kernel
theorem dX5_text_86 : decode cX5_text 86 = .ok (.if_icmp .ge 21, 3) := by decide +kernel
theorem dX5_text_89 : decode cX5_text 89 = .ok (.aload_n 0, 1) := by decide +kernel
theorem dX5_text_90 : decode cX5_text 90 = .ok (.getfield 13, 3) := by decide +kernel
theorem dX5_text_93 : decode cX5_text 93 = .ok (.iload_n 2, 1) := by decide +kernel
theorem dX5_text_94 : decode cX5_text 94 = .ok (.aload_n 0, 1) := by decide +kernel
theorem dX5_text_95 : decode cX5_text 95 = .ok (.getfield 20, 3) := by decide +kernel
theorem dX5_text_98 : decode cX5_text 98 = .ok (.iload_n 2, 1) := by decide +kernel
theorem dX5_text_99 : decode cX5_text 99 = .ok (.iaload, 1) := by decide +kernel
theorem dX5_text_100 : decode cX5_text 100 = .ok (.iastore, 1) := by decide +kernel
theorem dX5_text_101 : decode cX5_text 101 = .ok (.iinc 2 1, 3) := by decide +kernel
theorem dX5_text_104 : decode cX5_text 104 = .ok (.goto (-21), 3) := by decide +kernel
theorem dX5_text_107 : decode cX5_text 107 = .ok (.iconst 0, 1) := by decide +kernel
theorem dX5_text_108 : decode cX5_text 108 = .ok (.istore_n 2, 1) := by decide +kernel
theorem dX5_text_109 : decode cX5_text 109 = .ok (.iload_n 2, 1) := by decide +kernel
theorem dX5_text_110 : decode cX5_text 110 = .ok (.iconst 4, 1) := by decide +kernel
theorem dX5_text_111 : decode cX5_text 111 = .ok (.if_icmp .ge 21, 3) := by decide +kernel
theorem dX5_text_114 : decode cX5_text 114 = .ok (.aload_n 0, 1) := by decide +kernel
theorem dX5_text_115 : decode cX5_text 115 = .ok (.getfield 33, 3) := by decide +kernel
theorem dX5_text_118 : decode cX5_text 118 = .ok (.iload_n 2, 1) := by decide +kernel
theorem dX5_text_119 : decode cX5_text 119 = .ok (.aload_n 0, 1) := by decide +kernel
theorem dX5_text_120 : decode cX5_text 120 = .ok (.getfield 37, 3) := by decide +kernel
theorem dX5_text_123 : decode cX5_text 123 = .ok (.iload_n 2, 1) := by decide +kernel
theorem dX5_text_124 : decode cX5_text 124 = .ok (.laload, 1) := by decide +kernel
theorem dX5_text_125 : decode cX5_text 125 = .ok (.lastore, 1) := by decide +kernel
theorem dX5_text_126 : decode cX5_text 126 = .ok (.iinc 2 1, 3) := by decide +kernel
theorem dX5_text_129 : decode cX5_text 129 = .ok (.goto (-20), 3) := by decide +kernel
theorem dX5_text_132 : decode cX5_text 132 = .ok (.aload_n 0, 1) := by decide +kernel
theorem dX5_text_133 : decode cX5_text 133 = .ok (.iconst 1, 1) := by decide +kernel
theorem dX5_text_134 : decode cX5_text 134 = .ok (.putfield 225, 3) := by decide +kernel
theorem dX5_text_137 : decode cX5_text 137 = .ok (.aload_n 0, 1) := by decide +kernel
theorem dX5_text_138 : decode cX5_text 138 = .ok (.iconst 0, 1) := by decide +kernel
theorem dX5_text_139 : decode cX5_text 139 = .ok (.putfield 229, 3) := by decide +kernel
theorem dX5_text_142 : decode cX5_text 142 = .ok (.aload_n 0, 1) := by decide +kernel
theorem dX5_text_143 : decode cX5_text 143 = .ok (.getfield 29, 3) := by decide +kernel
theorem dX5_text_146 : decode cX5_text 146 = .ok (.iconst 0, 1) := by decide +kernel
theorem dX5_text_147 : decode cX5_text 147 = .ok (.iconst 0, 1) := by decide +kernel
theorem dX5_text_148 : decode cX5_text 148 = .ok (.bastore, 1) := by decide +kernel
theorem dX5_text_149 : decode cX5_text 149 = .ok (.aload_n 0, 1) := by decide +kernel
theorem dX5_text_150 : decode cX5_text 150 = .ok (.getfield 29, 3) := by decide +kernel
theorem dX5_text_153 : decode cX5_text 153 = .ok (.iconst 1, 1) := by decide +kernel
theorem dX5_text_154 : decode cX5_text 154 = .ok (.iconst 0, 1) := by decide +kernel
theorem dX5_text_155 : decode cX5_text 155 = .ok (.bastore, 1) := by decide +kernel
theorem dX5_text_156 : decode cX5_text 156 = .ok (.aload_n 0, 1) := by decide +kernel
theorem dX5_text_157 : decode cX5_text 157 = .ok (.getfield 13, 3) := by decide +kernel
theorem dX5_text_160 : decode cX5_text 160 = .ok (.iconst 0, 1) := by decide +kernel
theorem dX5_text_161 : decode cX5_text 161 = .ok (.iaload, 1) := by decide +kernel
theorem dX5_text_162 : decode cX5_text 162 = .ok (.ireturn, 1) := by decide +kernel
theorem dX5_fault_0 : decode cX5_fault 0 = .ok (.aload_n 0, 1) := by decide +kernel
theorem dX5_fault_1 : decode cX5_fault 1 = .ok (.iconst 0, 1) := by decide +kernel
theorem dX5_fault_2 : decode cX5_fault 2 = .ok (.putfield 52, 3) := by decide +kernel
theorem dX5_fault_5 : decode cX5_fault 5 = .ok (.aload_n 0, 1) := by decide +kernel
theorem dX5_fault_6 : decode cX5_fault 6 = .ok (.getfield 222, 3) := by decide +kernel
theorem dX5_fault_9 : decode cX5_fault 9 = .ok (.ireturn, 1) := by decide +kernel
theorem dX5_where_0 : decode cX5_where 0 = .ok (.aload_n 0, 1) := by decide +kernel
theorem dX5_where_1 : decode cX5_where 1 = .ok (.iconst 0, 1) := by decide +kernel
theorem dX5_where_2 : decode cX5_where 2 = .ok (.putfield 52, 3) := by decide +kernel
theorem dX5_where_5 : decode cX5_where 5 = .ok (.aload_n 0, 1) := by decide +kernel
theorem dX5_where_6 : decode cX5_where 6 = .ok (.getfield 9, 3) := by decide +kernel
theorem dX5_where_9 : decode cX5_where 9 = .ok (.ireturn, 1) := by decide +kernel
theorem dX5_trouble_0 : decode cX5_trouble 0 = .ok (.aload_n 0, 1) := by decide +kernel
theorem dX5_trouble_1 : decode cX5_trouble 1 = .ok (.iconst 0, 1) := by decide +kernel
theorem dX5_trouble_2 : decode cX5_trouble 2 = .ok (.putfield 52, 3) := by decide +kernel
theorem dX5_trouble_5 : decode cX5_trouble 5 = .ok (.aload_n 0, 1) := by decide +kernel
theorem dX5_trouble_6 : decode cX5_trouble 6 = .ok (.getfield 55, 3) := by decide +kernel
theorem dX5_trouble_9 : decode cX5_trouble 9 = .ok (.ireturn, 1) := by decide +kernel
theorem dX5_isShip_0 : decode cX5_isShip 0 = .ok (.aload_n 0, 1) := by decide +kernel
theorem dX5_isShip_1 : decode cX5_isShip 1 = .ok (.getfield 225, 3) := by decide +kernel
theorem dX5_isShip_4 : decode cX5_isShip 4 = .ok (.ifCond .eq 25, 3) := by decide +kernel
theorem dX5_isShip_7 : decode cX5_isShip 7 = .ok (.iload_n 1, 1) := by decide +kernel
theorem dX5_isShip_8 : decode cX5_isShip 8 = .ok (.i2l, 1) := by decide +kernel
theorem dX5_isShip_9 : decode cX5_isShip 9 = .ok (.lconst 0, 1) := by decide +kernel
theorem dX5_isShip_10 : decode cX5_isShip 10 = .ok (.aload_n 0, 1) := by decide +kernel
theorem dX5_isShip_11 : decode cX5_isShip 11 = .ok (.getfield 13, 3) := by decide +kernel
theorem dX5_isShip_14 : decode cX5_isShip 14 = .ok (.iconst 0, 1) := by decide +kernel
theorem dX5_isShip_15 : decode cX5_isShip 15 = .ok (.iaload, 1) := by decide +kernel
theorem dX5_isShip_16 : decode cX5_isShip 16 = .ok (.iconst 1, 1) := by decide +kernel
theorem dX5_isShip_17 : decode cX5_isShip 17 = .ok (.isub, 1) := by decide +kernel
theorem dX5_isShip_18 : decode cX5_isShip 18 = .ok (.i2l, 1) := by decide +kernel
theorem dX5_isShip_19 : decode cX5_isShip 19 = .ok (.invokestatic 161, 3) := by decide +kernel
theorem dX5_isShip_22 : decode cX5_isShip 22 = .ok (.ifCond .eq 7, 3) := by decide +kernel
theorem dX5_isShip_25 : decode cX5_isShip 25 = .ok (.iconst 1, 1) := by decide +kernel
theorem dX5_isShip_26 : decode cX5_isShip 26 = .ok (.goto 4, 3) := by decide +kernel
theorem dX5_isShip_29 : decode cX5_isShip 29 = .ok (.iconst 0, 1) := by decide +kernel
theorem dX5_isShip_30 : decode cX5_isShip 30 = .ok (.ireturn, 1) := by decide +kernel
theorem dX5_isClaim_0 : decode cX5_isClaim 0 = .ok (.aload_n 0, 1) := by decide +kernel
theorem dX5_isClaim_1 : decode cX5_isClaim 1 = .ok (.getfield 225, 3) := by decide +kernel
theorem dX5_isClaim_4 : decode cX5_isClaim 4 = .ok (.ifCond .eq 25, 3) := by decide +kernel
theorem dX5_isClaim_7 : decode cX5_isClaim 7 = .ok (.iload_n 1, 1) := by decide +kernel
theorem dX5_isClaim_8 : decode cX5_isClaim 8 = .ok (.i2l, 1) := by decide +kernel
theorem dX5_isClaim_9 : decode cX5_isClaim 9 = .ok (.lconst 0, 1) := by decide +kernel
theorem dX5_isClaim_10 : decode cX5_isClaim 10 = .ok (.aload_n 0, 1) := by decide +kernel
theorem dX5_isClaim_11 : decode cX5_isClaim 11 = .ok (.getfield 13, 3) := by decide +kernel
theorem dX5_isClaim_14 : decode cX5_isClaim 14 = .ok (.iconst 1, 1) := by decide +kernel
theorem dX5_isClaim_15 : decode cX5_isClaim 15 = .ok (.iaload, 1) := by decide +kernel
theorem dX5_isClaim_16 : decode cX5_isClaim 16 = .ok (.iconst 1, 1) := by decide +kernel
theorem dX5_isClaim_17 : decode cX5_isClaim 17 = .ok (.isub, 1) := by decide +kernel
theorem dX5_isClaim_18 : decode cX5_isClaim 18 = .ok (.i2l, 1) := by decide +kernel
theorem dX5_isClaim_19 : decode cX5_isClaim 19 = .ok (.invokestatic 161, 3) := by decide +kernel
theorem dX5_isClaim_22 : decode cX5_isClaim 22 = .ok (.ifCond .eq 7, 3) := by decide +kernel
theorem dX5_isClaim_25 : decode cX5_isClaim 25 = .ok (.iconst 1, 1) := by decide +kernel
theorem dX5_isClaim_26 : decode cX5_isClaim 26 = .ok (.goto 4, 3) := by decide +kernel
theorem dX5_isClaim_29 : decode cX5_isClaim 29 = .ok (.iconst 0, 1) := by decide +kernel
theorem dX5_isClaim_30 : decode cX5_isClaim 30 = .ok (.ireturn, 1) := by decide +kernel
theorem dX5_ofShip_0 : decode cX5_ofShip 0 = .ok (.aload_n 0, 1) := by decide +kernel
theorem dX5_ofShip_1 : decode cX5_ofShip 1 = .ok (.bipush 10, 2) := by decide +kernel
theorem dX5_ofShip_3 : decode cX5_ofShip 3 = .ok (.bipush 6, 2) := by decide +kernel
theorem dX5_ofShip_5 : decode cX5_ofShip 5 = .ok (.iload_n 1, 1) := by decide +kernel
theorem dX5_ofShip_6 : decode cX5_ofShip 6 = .ok (.imul, 1) := by decide +kernel
theorem dX5_ofShip_7 : decode cX5_ofShip 7 = .ok (.iadd, 1) := by decide +kernel
theorem dX5_ofShip_8 : decode cX5_ofShip 8 = .ok (.iload_n 2, 1) := by decide +kernel
theorem dX5_ofShip_9 : decode cX5_ofShip 9 = .ok (.iadd, 1) := by decide +kernel
theorem dX5_ofShip_10 : decode cX5_ofShip 10 = .ok (.iaload, 1) := by decide +kernel
theorem dX5_ofShip_11 : decode cX5_ofShip 11 = .ok (.ireturn, 1) := by decide +kernel
theorem dX5_ofClaim_0 : decode cX5_ofClaim 0 = .ok (.aload_n 0, 1) := by decide +kernel
theorem dX5_ofClaim_1 : decode cX5_ofClaim 1 = .ok (.bipush 34, 2) := by decide +kernel
theorem dX5_ofClaim_3 : decode cX5_ofClaim 3 = .ok (.iconst 4, 1) := by decide +kernel
theorem dX5_ofClaim_4 : decode cX5_ofClaim 4 = .ok (.iload_n 1, 1) := by decide +kernel
theorem dX5_ofClaim_5 : decode cX5_ofClaim 5 = .ok (.imul, 1) := by decide +kernel
theorem dX5_ofClaim_6 : decode cX5_ofClaim 6 = .ok (.iadd, 1) := by decide +kernel
theorem dX5_ofClaim_7 : decode cX5_ofClaim 7 = .ok (.iload_n 2, 1) := by decide +kernel
theorem dX5_ofClaim_8 : decode cX5_ofClaim 8 = .ok (.iadd, 1) := by decide +kernel
theorem dX5_ofClaim_9 : decode cX5_ofClaim 9 = .ok (.iaload, 1) := by decide +kernel
theorem dX5_ofClaim_10 : decode cX5_ofClaim 10 = .ok (.ireturn, 1) := by decide +kernel
theorem dX5_about_0 : decode cX5_about 0 = .ok (.aload_n 0, 1) := by decide +kernel
theorem dX5_about_1 : decode cX5_about 1 = .ok (.invokevirtual 212, 3) := by decide +kernel
theorem dX5_about_4 : decode cX5_about 4 = .ok (.aload_n 0, 1) := by decide +kernel
theorem dX5_about_5 : decode cX5_about 5 = .ok (.aload_n 0, 1) := by decide +kernel
theorem dX5_about_6 : decode cX5_about 6 = .ok (.getfield 225, 3) := by decide +kernel
theorem dX5_about_9 : decode cX5_about 9 = .ok (.ifCond .eq 15, 3) := by decide +kernel
theorem dX5_about_12 : decode cX5_about 12 = .ok (.iload_n 1, 1) := by decide +kernel
theorem dX5_about_13 : decode cX5_about 13 = .ok (.i2l, 1) := by decide +kernel
theorem dX5_about_14 : decode cX5_about 14 = .ok (.lconst 0, 1) := by decide +kernel
theorem dX5_about_15 : decode cX5_about 15 = .ok (.ldc2_w 232, 3) := by decide +kernel
theorem dX5_about_18 : decode cX5_about 18 = .ok (.invokestatic 161, 3) := by decide +kernel
theorem dX5_about_21 : decode cX5_about 21 = .ok (.ifCond .ne 7, 3) := by decide +kernel
theorem dX5_about_24 : decode cX5_about 24 = .ok (.iconst 1, 1) := by decide +kernel
theorem dX5_about_25 : decode cX5_about 25 = .ok (.goto 4, 3) := by decide +kernel
theorem dX5_about_28 : decode cX5_about 28 = .ok (.iconst 0, 1) := by decide +kernel
theorem dX5_about_29 : decode cX5_about 29 = .ok (.iconst 1, 1) := by decide +kernel
theorem dX5_about_30 : decode cX5_about 30 = .ok (.invokevirtual 215, 3) := by decide +kernel
theorem dX5_about_33 : decode cX5_about 33 = .ok (.ifCond .eq 5, 3) := by decide +kernel
theorem dX5_about_36 : decode cX5_about 36 = .ok (.iconst (-1), 1) := by decide +kernel
theorem dX5_about_37 : decode cX5_about 37 = .ok (.ireturn, 1) := by decide +kernel
theorem dX5_about_38 : decode cX5_about 38 = .ok (.iload_n 1, 1) := by decide +kernel
theorem dX5_about_39 : decode cX5_about 39 = .ok (.bipush 10, 2) := by decide +kernel
theorem dX5_about_41 : decode cX5_about 41 = .ok (.if_icmp .ne 10, 3) := by decide +kernel
theorem dX5_about_44 : decode cX5_about 44 = .ok (.aload_n 0, 1) := by decide +kernel
theorem dX5_about_45 : decode cX5_about 45 = .ok (.getfield 229, 3) := by decide +kernel
theorem dX5_about_48 : decode cX5_about 48 = .ok (.goto 9, 3) := by decide +kernel
theorem dX5_about_51 : decode cX5_about 51 = .ok (.aload_n 0, 1) := by decide +kernel
theorem dX5_about_52 : decode cX5_about 52 = .ok (.getfield 13, 3) := by decide +kernel
theorem dX5_about_55 : decode cX5_about 55 = .ok (.iload_n 1, 1) := by decide +kernel
theorem dX5_about_56 : decode cX5_about 56 = .ok (.iaload, 1) := by decide +kernel
theorem dX5_about_57 : decode cX5_about 57 = .ok (.ireturn, 1) := by decide +kernel
theorem dX5_ship_0 : decode cX5_ship 0 = .ok (.aload_n 0, 1) := by decide +kernel
theorem dX5_ship_1 : decode cX5_ship 1 = .ok (.invokevirtual 212, 3) := by decide +kernel
theorem dX5_ship_4 : decode cX5_ship 4 = .ok (.aload_n 0, 1) := by decide +kernel
theorem dX5_ship_5 : decode cX5_ship 5 = .ok (.aload_n 0, 1) := by decide +kernel
theorem dX5_ship_6 : decode cX5_ship 6 = .ok (.iload_n 1, 1) := by decide +kernel
theorem dX5_ship_7 : decode cX5_ship 7 = .ok (.invokevirtual 234, 3) := by decide +kernel
theorem dX5_ship_10 : decode cX5_ship 10 = .ok (.ifCond .eq 15, 3) := by decide +kernel
theorem dX5_ship_13 : decode cX5_ship 13 = .ok (.iload_n 2, 1) := by decide +kernel
theorem dX5_ship_14 : decode cX5_ship 14 = .ok (.i2l, 1) := by decide +kernel
theorem dX5_ship_15 : decode cX5_ship 15 = .ok (.lconst 0, 1) := by decide +kernel
theorem dX5_ship_16 : decode cX5_ship 16 = .ok (.ldc2_w 237, 3) := by decide +kernel
theorem dX5_ship_19 : decode cX5_ship 19 = .ok (.invokestatic 161, 3) := by decide +kernel
theorem dX5_ship_22 : decode cX5_ship 22 = .ok (.ifCond .ne 7, 3) := by decide +kernel
theorem dX5_ship_25 : decode cX5_ship 25 = .ok (.iconst 1, 1) := by decide +kernel
theorem dX5_ship_26 : decode cX5_ship 26 = .ok (.goto 4, 3) := by decide +kernel
theorem dX5_ship_29 : decode cX5_ship 29 = .ok (.iconst 0, 1) := by decide +kernel
theorem dX5_ship_30 : decode cX5_ship 30 = .ok (.iconst 1, 1) := by decide +kernel
theorem dX5_ship_31 : decode cX5_ship 31 = .ok (.invokevirtual 215, 3) := by decide +kernel
theorem dX5_ship_34 : decode cX5_ship 34 = .ok (.ifCond .eq 5, 3) := by decide +kernel
theorem dX5_ship_37 : decode cX5_ship 37 = .ok (.iconst (-1), 1) := by decide +kernel
theorem dX5_ship_38 : decode cX5_ship 38 = .ok (.ireturn, 1) := by decide +kernel
theorem dX5_ship_39 : decode cX5_ship 39 = .ok (.iload_n 2, 1) := by decide +kernel
theorem dX5_ship_40 : decode cX5_ship 40 = .ok (.bipush 6, 2) := by decide +kernel
theorem dX5_ship_42 : decode cX5_ship 42 = .ok (.if_icmp .ne 14, 3) := by decide +kernel
theorem dX5_ship_45 : decode cX5_ship 45 = .ok (.aload_n 0, 1) := by decide +kernel
theorem dX5_ship_46 : decode cX5_ship 46 = .ok (.getfield 13, 3) := by decide +kernel
theorem dX5_ship_49 : decode cX5_ship 49 = .ok (.iload_n 1, 1) := by decide +kernel
theorem dX5_ship_50 : decode cX5_ship 50 = .ok (.invokestatic 239, 3) := by decide +kernel
theorem dX5_ship_53 : decode cX5_ship 53 = .ok (.goto 12, 3) := by decide +kernel
theorem dX5_ship_56 : decode cX5_ship 56 = .ok (.aload_n 0, 1) := by decide +kernel
theorem dX5_ship_57 : decode cX5_ship 57 = .ok (.getfield 13, 3) := by decide +kernel
theorem dX5_ship_60 : decode cX5_ship 60 = .ok (.iload_n 1, 1) := by decide +kernel
theorem dX5_ship_61 : decode cX5_ship 61 = .ok (.iload_n 2, 1) := by decide +kernel
theorem dX5_ship_62 : decode cX5_ship 62 = .ok (.invokestatic 243, 3) := by decide +kernel
theorem dX5_ship_65 : decode cX5_ship 65 = .ok (.ireturn, 1) := by decide +kernel
theorem dX5_claim_0 : decode cX5_claim 0 = .ok (.aload_n 0, 1) := by decide +kernel
theorem dX5_claim_1 : decode cX5_claim 1 = .ok (.invokevirtual 212, 3) := by decide +kernel
theorem dX5_claim_4 : decode cX5_claim 4 = .ok (.aload_n 0, 1) := by decide +kernel
theorem dX5_claim_5 : decode cX5_claim 5 = .ok (.aload_n 0, 1) := by decide +kernel
theorem dX5_claim_6 : decode cX5_claim 6 = .ok (.iload_n 1, 1) := by decide +kernel
theorem dX5_claim_7 : decode cX5_claim 7 = .ok (.invokevirtual 247, 3) := by decide +kernel
theorem dX5_claim_10 : decode cX5_claim 10 = .ok (.ifCond .eq 15, 3) := by decide +kernel
theorem dX5_claim_13 : decode cX5_claim 13 = .ok (.iload_n 2, 1) := by decide +kernel
theorem dX5_claim_14 : decode cX5_claim 14 = .ok (.i2l, 1) := by decide +kernel
theorem dX5_claim_15 : decode cX5_claim 15 = .ok (.lconst 0, 1) := by decide +kernel
theorem dX5_claim_16 : decode cX5_claim 16 = .ok (.ldc2_w 250, 3) := by decide +kernel
theorem dX5_claim_19 : decode cX5_claim 19 = .ok (.invokestatic 161, 3) := by decide +kernel
theorem dX5_claim_22 : decode cX5_claim 22 = .ok (.ifCond .ne 7, 3) := by decide +kernel
theorem dX5_claim_25 : decode cX5_claim 25 = .ok (.iconst 1, 1) := by decide +kernel
theorem dX5_claim_26 : decode cX5_claim 26 = .ok (.goto 4, 3) := by decide +kernel
theorem dX5_claim_29 : decode cX5_claim 29 = .ok (.iconst 0, 1) := by decide +kernel
theorem dX5_claim_30 : decode cX5_claim 30 = .ok (.iconst 1, 1) := by decide +kernel
theorem dX5_claim_31 : decode cX5_claim 31 = .ok (.invokevirtual 215, 3) := by decide +kernel
theorem dX5_claim_34 : decode cX5_claim 34 = .ok (.ifCond .eq 5, 3) := by decide +kernel
theorem dX5_claim_37 : decode cX5_claim 37 = .ok (.iconst (-1), 1) := by decide +kernel
theorem dX5_claim_38 : decode cX5_claim 38 = .ok (.ireturn, 1) := by decide +kernel
theorem dX5_claim_39 : decode cX5_claim 39 = .ok (.iload_n 2, 1) := by decide +kernel
theorem dX5_claim_40 : decode cX5_claim 40 = .ok (.iconst 4, 1) := by decide +kernel
theorem dX5_claim_41 : decode cX5_claim 41 = .ok (.if_icmp .ne 14, 3) := by decide +kernel
theorem dX5_claim_44 : decode cX5_claim 44 = .ok (.aload_n 0, 1) := by decide +kernel
theorem dX5_claim_45 : decode cX5_claim 45 = .ok (.getfield 13, 3) := by decide +kernel
theorem dX5_claim_48 : decode cX5_claim 48 = .ok (.iload_n 1, 1) := by decide +kernel
theorem dX5_claim_49 : decode cX5_claim 49 = .ok (.invokestatic 252, 3) := by decide +kernel
theorem dX5_claim_52 : decode cX5_claim 52 = .ok (.goto 12, 3) := by decide +kernel
theorem dX5_claim_55 : decode cX5_claim 55 = .ok (.aload_n 0, 1) := by decide +kernel
theorem dX5_claim_56 : decode cX5_claim 56 = .ok (.getfield 13, 3) := by decide +kernel
theorem dX5_claim_59 : decode cX5_claim 59 = .ok (.iload_n 1, 1) := by decide +kernel
theorem dX5_claim_60 : decode cX5_claim 60 = .ok (.iload_n 2, 1) := by decide +kernel
theorem dX5_claim_61 : decode cX5_claim 61 = .ok (.invokestatic 255, 3) := by decide +kernel
theorem dX5_claim_64 : decode cX5_claim 64 = .ok (.ireturn, 1) := by decide +kernel
theorem dX5_letter_0 : decode cX5_letter 0 = .ok (.aload_n 0, 1) := by decide +kernel
theorem dX5_letter_1 : decode cX5_letter 1 = .ok (.iconst 0, 1) := by decide +kernel
theorem dX5_letter_2 : decode cX5_letter 2 = .ok (.putfield 52, 3) := by decide +kernel
theorem dX5_letter_5 : decode cX5_letter 5 = .ok (.aload_n 0, 1) := by decide +kernel
theorem dX5_letter_6 : decode cX5_letter 6 = .ok (.iload_n 1, 1) := by decide +kernel
theorem dX5_letter_7 : decode cX5_letter 7 = .ok (.invokevirtual 234, 3) := by decide +kernel
theorem dX5_letter_10 : decode cX5_letter 10 = .ok (.ifCond .ne 10, 3) := by decide +kernel
theorem dX5_letter_13 : decode cX5_letter 13 = .ok (.aload_n 0, 1) := by decide +kernel
theorem dX5_letter_14 : decode cX5_letter 14 = .ok (.iconst 1, 1) := by decide +kernel
theorem dX5_letter_15 : decode cX5_letter 15 = .ok (.putfield 52, 3) := by decide +kernel
theorem dX5_letter_18 : decode cX5_letter 18 = .ok (.iconst 0, 1) := by decide +kernel
theorem dX5_letter_19 : decode cX5_letter 19 = .ok (.ireturn, 1) := by decide +kernel
theorem dX5_letter_20 : decode cX5_letter 20 = .ok (.iconst 0, 1) := by decide +kernel
theorem dX5_letter_21 : decode cX5_letter 21 = .ok (.istore_n 3, 1) := by decide +kernel
theorem dX5_letter_22 : decode cX5_letter 22 = .ok (.aload_n 0, 1) := by decide +kernel
theorem dX5_letter_23 : decode cX5_letter 23 = .ok (.getfield 33, 3) := by decide +kernel
theorem dX5_letter_26 : decode cX5_letter 26 = .ok (.iload_n 1, 1) := by decide +kernel
theorem dX5_letter_27 : decode cX5_letter 27 = .ok (.laload, 1) := by decide +kernel
theorem dX5_letter_28 : decode cX5_letter 28 = .ok (.lstore 4, 2) := by decide +kernel
theorem dX5_letter_30 : decode cX5_letter 30 = .ok (.lload 4, 2) := by decide +kernel
theorem dX5_letter_32 : decode cX5_letter 32 = .ok (.lconst 0, 1) := by decide +kernel
theorem dX5_letter_33 : decode cX5_letter 33 = .ok (.lcmp, 1) := by decide +kernel
theorem dX5_letter_34 : decode cX5_letter 34 = .ok (.ifCond .le 17, 3) := by decide +kernel
theorem dX5_letter_37 : decode cX5_letter 37 = .ok (.iinc 3 1, 3) := by decide +kernel
theorem dX5_letter_40 : decode cX5_letter 40 = .ok (.lload 4, 2) := by decide +kernel
theorem dX5_letter_42 : decode cX5_letter 42 = .ok (.ldc2_w 88, 3) := by decide +kernel
theorem dX5_letter_45 : decode cX5_letter 45 = .ok (.ldiv, 1) := by decide +kernel
theorem dX5_letter_46 : decode cX5_letter 46 = .ok (.lstore 4, 2) := by decide +kernel
theorem dX5_letter_48 : decode cX5_letter 48 = .ok (.goto (-18), 3) := by decide +kernel
theorem dX5_letter_51 : decode cX5_letter 51 = .ok (.iload_n 2, 1) := by decide +kernel
theorem dX5_letter_52 : decode cX5_letter 52 = .ok (.i2l, 1) := by decide +kernel
theorem dX5_letter_53 : decode cX5_letter 53 = .ok (.lconst 0, 1) := by decide +kernel
theorem dX5_letter_54 : decode cX5_letter 54 = .ok (.iload_n 3, 1) := by decide +kernel
theorem dX5_letter_55 : decode cX5_letter 55 = .ok (.iconst 1, 1) := by decide +kernel
theorem dX5_letter_56 : decode cX5_letter 56 = .ok (.isub, 1) := by decide +kernel
theorem dX5_letter_57 : decode cX5_letter 57 = .ok (.i2l, 1) := by decide +kernel
theorem dX5_letter_58 : decode cX5_letter 58 = .ok (.invokestatic 161, 3) := by decide +kernel
theorem dX5_letter_61 : decode cX5_letter 61 = .ok (.ifCond .ne 10, 3) := by decide +kernel
theorem dX5_letter_64 : decode cX5_letter 64 = .ok (.aload_n 0, 1) := by decide +kernel
theorem dX5_letter_65 : decode cX5_letter 65 = .ok (.iconst 1, 1) := by decide +kernel
theorem dX5_letter_66 : decode cX5_letter 66 = .ok (.putfield 52, 3) := by decide +kernel
theorem dX5_letter_69 : decode cX5_letter 69 = .ok (.iconst 0, 1) := by decide +kernel
theorem dX5_letter_70 : decode cX5_letter 70 = .ok (.ireturn, 1) := by decide +kernel
theorem dX5_letter_71 : decode cX5_letter 71 = .ok (.aload_n 0, 1) := by decide +kernel
theorem dX5_letter_72 : decode cX5_letter 72 = .ok (.getfield 33, 3) := by decide +kernel
theorem dX5_letter_75 : decode cX5_letter 75 = .ok (.iload_n 1, 1) := by decide +kernel
theorem dX5_letter_76 : decode cX5_letter 76 = .ok (.laload, 1) := by decide +kernel
theorem dX5_letter_77 : decode cX5_letter 77 = .ok (.lstore 4, 2) := by decide +kernel
theorem dX5_letter_79 : decode cX5_letter 79 = .ok (.iload_n 3, 1) := by decide +kernel
theorem dX5_letter_80 : decode cX5_letter 80 = .ok (.iconst 1, 1) := by decide +kernel
theorem dX5_letter_81 : decode cX5_letter 81 = .ok (.isub, 1) := by decide +kernel
theorem dX5_letter_82 : decode cX5_letter 82 = .ok (.istore 6, 2) := by decide +kernel
theorem dX5_letter_84 : decode cX5_letter 84 = .ok (.iload 6, 2) := by decide +kernel
theorem dX5_letter_86 : decode cX5_letter 86 = .ok (.iload_n 2, 1) := by decide +kernel
theorem dX5_letter_87 : decode cX5_letter 87 = .ok (.if_icmp .le 17, 3) := by decide +kernel
theorem dX5_letter_90 : decode cX5_letter 90 = .ok (.lload 4, 2) := by decide +kernel
theorem dX5_letter_92 : decode cX5_letter 92 = .ok (.ldc2_w 88, 3) := by decide +kernel
theorem dX5_letter_95 : decode cX5_letter 95 = .ok (.ldiv, 1) := by decide +kernel
theorem dX5_letter_96 : decode cX5_letter 96 = .ok (.lstore 4, 2) := by decide +kernel
theorem dX5_letter_98 : decode cX5_letter 98 = .ok (.iinc 6 (-1), 3) := by decide +kernel
theorem dX5_letter_101 : decode cX5_letter 101 = .ok (.goto (-17), 3) := by decide +kernel
theorem dX5_letter_104 : decode cX5_letter 104 = .ok (.lload 4, 2) := by decide +kernel
theorem dX5_letter_106 : decode cX5_letter 106 = .ok (.ldc2_w 88, 3) := by decide +kernel
theorem dX5_letter_109 : decode cX5_letter 109 = .ok (.lrem, 1) := by decide +kernel
theorem dX5_letter_110 : decode cX5_letter 110 = .ok (.l2i, 1) := by decide +kernel
theorem dX5_letter_111 : decode cX5_letter 111 = .ok (.iconst 1, 1) := by decide +kernel
theorem dX5_letter_112 : decode cX5_letter 112 = .ok (.isub, 1) := by decide +kernel
theorem dX5_letter_113 : decode cX5_letter 113 = .ok (.ireturn, 1) := by decide +kernel
theorem dX5_weightOf_0 : decode cX5_weightOf 0 = .ok (.aload_n 0, 1) := by decide +kernel
theorem dX5_weightOf_1 : decode cX5_weightOf 1 = .ok (.iload_n 1, 1) := by decide +kernel
theorem dX5_weightOf_2 : decode cX5_weightOf 2 = .ok (.iconst 1, 1) := by decide +kernel
theorem dX5_weightOf_3 : decode cX5_weightOf 3 = .ok (.invokestatic 243, 3) := by decide +kernel
theorem dX5_weightOf_6 : decode cX5_weightOf 6 = .ok (.istore_n 2, 1) := by decide +kernel
theorem dX5_weightOf_7 : decode cX5_weightOf 7 = .ok (.aload_n 0, 1) := by decide +kernel
theorem dX5_weightOf_8 : decode cX5_weightOf 8 = .ok (.iconst 2, 1) := by decide +kernel
theorem dX5_weightOf_9 : decode cX5_weightOf 9 = .ok (.iaload, 1) := by decide +kernel
theorem dX5_weightOf_10 : decode cX5_weightOf 10 = .ok (.iconst 1, 1) := by decide +kernel
theorem dX5_weightOf_11 : decode cX5_weightOf 11 = .ok (.if_icmp .ne 15, 3) := by decide +kernel
theorem dX5_weightOf_14 : decode cX5_weightOf 14 = .ok (.iload_n 2, 1) := by decide +kernel
theorem dX5_weightOf_15 : decode cX5_weightOf 15 = .ok (.ifCond .le 7, 3) := by decide +kernel
theorem dX5_weightOf_18 : decode cX5_weightOf 18 = .ok (.iconst 1, 1) := by decide +kernel
theorem dX5_weightOf_19 : decode cX5_weightOf 19 = .ok (.goto 8, 3) := by decide +kernel
theorem dX5_weightOf_22 : decode cX5_weightOf 22 = .ok (.iconst 0, 1) := by decide +kernel
theorem dX5_weightOf_23 : decode cX5_weightOf 23 = .ok (.goto 4, 3) := by decide +kernel
theorem dX5_weightOf_26 : decode cX5_weightOf 26 = .ok (.iload_n 2, 1) := by decide +kernel
theorem dX5_weightOf_27 : decode cX5_weightOf 27 = .ok (.ireturn, 1) := by decide +kernel
theorem dX5_weightsOf_0 : decode cX5_weightsOf 0 = .ok (.iconst 0, 1) := by decide +kernel
theorem dX5_weightsOf_1 : decode cX5_weightsOf 1 = .ok (.istore_n 1, 1) := by decide +kernel
theorem dX5_weightsOf_2 : decode cX5_weightsOf 2 = .ok (.iconst 0, 1) := by decide +kernel
theorem dX5_weightsOf_3 : decode cX5_weightsOf 3 = .ok (.istore_n 2, 1) := by decide +kernel
theorem dX5_weightsOf_4 : decode cX5_weightsOf 4 = .ok (.iload_n 2, 1) := by decide +kernel
theorem dX5_weightsOf_5 : decode cX5_weightsOf 5 = .ok (.aload_n 0, 1) := by decide +kernel
theorem dX5_weightsOf_6 : decode cX5_weightsOf 6 = .ok (.iconst 0, 1) := by decide +kernel
theorem dX5_weightsOf_7 : decode cX5_weightsOf 7 = .ok (.iaload, 1) := by decide +kernel
theorem dX5_weightsOf_8 : decode cX5_weightsOf 8 = .ok (.if_icmp .ge 17, 3) := by decide +kernel
theorem dX5_weightsOf_11 : decode cX5_weightsOf 11 = .ok (.iload_n 1, 1) := by decide +kernel
theorem dX5_weightsOf_12 : decode cX5_weightsOf 12 = .ok (.aload_n 0, 1) := by decide +kernel
theorem dX5_weightsOf_13 : decode cX5_weightsOf 13 = .ok (.iload_n 2, 1) := by decide +kernel
theorem dX5_weightsOf_14 : decode cX5_weightsOf 14 = .ok (.invokestatic 239, 3) := by decide +kernel
theorem dX5_weightsOf_17 : decode cX5_weightsOf 17 = .ok (.iadd, 1) := by decide +kernel
theorem dX5_weightsOf_18 : decode cX5_weightsOf 18 = .ok (.istore_n 1, 1) := by decide +kernel
theorem dX5_weightsOf_19 : decode cX5_weightsOf 19 = .ok (.iinc 2 1, 3) := by decide +kernel
theorem dX5_weightsOf_22 : decode cX5_weightsOf 22 = .ok (.goto (-18), 3) := by decide +kernel
theorem dX5_weightsOf_25 : decode cX5_weightsOf 25 = .ok (.iload_n 1, 1) := by decide +kernel
theorem dX5_weightsOf_26 : decode cX5_weightsOf 26 = .ok (.ireturn, 1) := by decide +kernel
theorem dX5_roundOf_0 : decode cX5_roundOf 0 = .ok (.aload_n 0, 1) := by decide +kernel
theorem dX5_roundOf_1 : decode cX5_roundOf 1 = .ok (.iload_n 1, 1) := by decide +kernel
theorem dX5_roundOf_2 : decode cX5_roundOf 2 = .ok (.iconst 3, 1) := by decide +kernel
theorem dX5_roundOf_3 : decode cX5_roundOf 3 = .ok (.invokestatic 255, 3) := by decide +kernel
theorem dX5_roundOf_6 : decode cX5_roundOf 6 = .ok (.istore_n 2, 1) := by decide +kernel
theorem dX5_roundOf_7 : decode cX5_roundOf 7 = .ok (.iload_n 2, 1) := by decide +kernel
theorem dX5_roundOf_8 : decode cX5_roundOf 8 = .ok (.aload_n 0, 1) := by decide +kernel
theorem dX5_roundOf_9 : decode cX5_roundOf 9 = .ok (.bipush 8, 2) := by decide +kernel
theorem dX5_roundOf_11 : decode cX5_roundOf 11 = .ok (.iaload, 1) := by decide +kernel
theorem dX5_roundOf_12 : decode cX5_roundOf 12 = .ok (.if_icmp .gt 7, 3) := by decide +kernel
theorem dX5_roundOf_15 : decode cX5_roundOf 15 = .ok (.iconst 0, 1) := by decide +kernel
theorem dX5_roundOf_16 : decode cX5_roundOf 16 = .ok (.goto 17, 3) := by decide +kernel
theorem dX5_roundOf_19 : decode cX5_roundOf 19 = .ok (.iload_n 2, 1) := by decide +kernel
theorem dX5_roundOf_20 : decode cX5_roundOf 20 = .ok (.aload_n 0, 1) := by decide +kernel
theorem dX5_roundOf_21 : decode cX5_roundOf 21 = .ok (.bipush 9, 2) := by decide +kernel
theorem dX5_roundOf_23 : decode cX5_roundOf 23 = .ok (.iaload, 1) := by decide +kernel
theorem dX5_roundOf_24 : decode cX5_roundOf 24 = .ok (.if_icmp .gt 7, 3) := by decide +kernel
theorem dX5_roundOf_27 : decode cX5_roundOf 27 = .ok (.iconst 1, 1) := by decide +kernel
theorem dX5_roundOf_28 : decode cX5_roundOf 28 = .ok (.goto 5, 3) := by decide +kernel
theorem dX5_roundOf_31 : decode cX5_roundOf 31 = .ok (.bipush (-2), 2) := by decide +kernel
theorem dX5_roundOf_33 : decode cX5_roundOf 33 = .ok (.ireturn, 1) := by decide +kernel
theorem dX5_partOf_0 : decode cX5_partOf 0 = .ok (.lload_n 2, 1) := by decide +kernel
theorem dX5_partOf_1 : decode cX5_partOf 1 = .ok (.aload_n 0, 1) := by decide +kernel
theorem dX5_partOf_2 : decode cX5_partOf 2 = .ok (.iload_n 1, 1) := by decide +kernel
theorem dX5_partOf_3 : decode cX5_partOf 3 = .ok (.invokestatic 239, 3) := by decide +kernel
theorem dX5_partOf_6 : decode cX5_partOf 6 = .ok (.i2l, 1) := by decide +kernel
theorem dX5_partOf_7 : decode cX5_partOf 7 = .ok (.lmul, 1) := by decide +kernel
theorem dX5_partOf_8 : decode cX5_partOf 8 = .ok (.aload_n 0, 1) := by decide +kernel
theorem dX5_partOf_9 : decode cX5_partOf 9 = .ok (.invokestatic 258, 3) := by decide +kernel
theorem dX5_partOf_12 : decode cX5_partOf 12 = .ok (.i2l, 1) := by decide +kernel
theorem dX5_partOf_13 : decode cX5_partOf 13 = .ok (.ldiv, 1) := by decide +kernel
theorem dX5_partOf_14 : decode cX5_partOf 14 = .ok (.lreturn, 1) := by decide +kernel
theorem dX5_debtOf_0 : decode cX5_debtOf 0 = .ok (.aload_n 0, 1) := by decide +kernel
theorem dX5_debtOf_1 : decode cX5_debtOf 1 = .ok (.iload_n 2, 1) := by decide +kernel
theorem dX5_debtOf_2 : decode cX5_debtOf 2 = .ok (.invokestatic 252, 3) := by decide +kernel
theorem dX5_debtOf_5 : decode cX5_debtOf 5 = .ok (.ifCond .lt 13, 3) := by decide +kernel
theorem dX5_debtOf_8 : decode cX5_debtOf 8 = .ok (.aload_n 0, 1) := by decide +kernel
theorem dX5_debtOf_9 : decode cX5_debtOf 9 = .ok (.iload_n 2, 1) := by decide +kernel
theorem dX5_debtOf_10 : decode cX5_debtOf 10 = .ok (.iconst 1, 1) := by decide +kernel
theorem dX5_debtOf_11 : decode cX5_debtOf 11 = .ok (.invokestatic 255, 3) := by decide +kernel
theorem dX5_debtOf_14 : decode cX5_debtOf 14 = .ok (.iload_n 1, 1) := by decide +kernel
theorem dX5_debtOf_15 : decode cX5_debtOf 15 = .ok (.if_icmp .ne 5, 3) := by decide +kernel
theorem dX5_debtOf_18 : decode cX5_debtOf 18 = .ok (.lconst 0, 1) := by decide +kernel
theorem dX5_debtOf_19 : decode cX5_debtOf 19 = .ok (.lreturn, 1) := by decide +kernel
theorem dX5_debtOf_20 : decode cX5_debtOf 20 = .ok (.aload_n 0, 1) := by decide +kernel
theorem dX5_debtOf_21 : decode cX5_debtOf 21 = .ok (.iload_n 2, 1) := by decide +kernel
theorem dX5_debtOf_22 : decode cX5_debtOf 22 = .ok (.iconst 2, 1) := by decide +kernel
theorem dX5_debtOf_23 : decode cX5_debtOf 23 = .ok (.invokestatic 255, 3) := by decide +kernel
theorem dX5_debtOf_26 : decode cX5_debtOf 26 = .ok (.i2l, 1) := by decide +kernel
theorem dX5_debtOf_27 : decode cX5_debtOf 27 = .ok (.lstore_n 3, 1) := by decide +kernel
theorem dX5_debtOf_28 : decode cX5_debtOf 28 = .ok (.aload_n 0, 1) := by decide +kernel
theorem dX5_debtOf_29 : decode cX5_debtOf 29 = .ok (.iload_n 2, 1) := by decide +kernel
theorem dX5_debtOf_30 : decode cX5_debtOf 30 = .ok (.iconst 0, 1) := by decide +kernel
theorem dX5_debtOf_31 : decode cX5_debtOf 31 = .ok (.invokestatic 255, 3) := by decide +kernel
theorem dX5_debtOf_34 : decode cX5_debtOf 34 = .ok (.ifCond .ne 9, 3) := by decide +kernel
theorem dX5_debtOf_37 : decode cX5_debtOf 37 = .ok (.aload_n 0, 1) := by decide +kernel
theorem dX5_debtOf_38 : decode cX5_debtOf 38 = .ok (.iconst 3, 1) := by decide +kernel
theorem dX5_debtOf_39 : decode cX5_debtOf 39 = .ok (.iaload, 1) := by decide +kernel
theorem dX5_debtOf_40 : decode cX5_debtOf 40 = .ok (.ifCond .ne 10, 3) := by decide +kernel
theorem dX5_debtOf_43 : decode cX5_debtOf 43 = .ok (.aload_n 0, 1) := by decide +kernel
theorem dX5_debtOf_44 : decode cX5_debtOf 44 = .ok (.iload_n 1, 1) := by decide +kernel
theorem dX5_debtOf_45 : decode cX5_debtOf 45 = .ok (.lload_n 3, 1) := by decide +kernel
theorem dX5_debtOf_46 : decode cX5_debtOf 46 = .ok (.invokestatic 262, 3) := by decide +kernel
theorem dX5_debtOf_49 : decode cX5_debtOf 49 = .ok (.lreturn, 1) := by decide +kernel
theorem dX5_debtOf_50 : decode cX5_debtOf 50 = .ok (.aload_n 0, 1) := by decide +kernel
theorem dX5_debtOf_51 : decode cX5_debtOf 51 = .ok (.invokestatic 258, 3) := by decide +kernel
theorem dX5_debtOf_54 : decode cX5_debtOf 54 = .ok (.aload_n 0, 1) := by decide +kernel
theorem dX5_debtOf_55 : decode cX5_debtOf 55 = .ok (.aload_n 0, 1) := by decide +kernel
theorem dX5_debtOf_56 : decode cX5_debtOf 56 = .ok (.iload_n 2, 1) := by decide +kernel
theorem dX5_debtOf_57 : decode cX5_debtOf 57 = .ok (.iconst 1, 1) := by decide +kernel
theorem dX5_debtOf_58 : decode cX5_debtOf 58 = .ok (.invokestatic 255, 3) := by decide +kernel
theorem dX5_debtOf_61 : decode cX5_debtOf 61 = .ok (.invokestatic 239, 3) := by decide +kernel
theorem dX5_debtOf_64 : decode cX5_debtOf 64 = .ok (.isub, 1) := by decide +kernel
theorem dX5_debtOf_65 : decode cX5_debtOf 65 = .ok (.istore 5, 2) := by decide +kernel
theorem dX5_debtOf_67 : decode cX5_debtOf 67 = .ok (.iload 5, 2) := by decide +kernel
theorem dX5_debtOf_69 : decode cX5_debtOf 69 = .ok (.ifCond .ne 7, 3) := by decide +kernel
theorem dX5_debtOf_72 : decode cX5_debtOf 72 = .ok (.lconst 0, 1) := by decide +kernel
theorem dX5_debtOf_73 : decode cX5_debtOf 73 = .ok (.goto 15, 3) := by decide +kernel
theorem dX5_debtOf_76 : decode cX5_debtOf 76 = .ok (.lload_n 3, 1) := by decide +kernel
theorem dX5_debtOf_77 : decode cX5_debtOf 77 = .ok (.aload_n 0, 1) := by decide +kernel
theorem dX5_debtOf_78 : decode cX5_debtOf 78 = .ok (.iload_n 1, 1) := by decide +kernel
theorem dX5_debtOf_79 : decode cX5_debtOf 79 = .ok (.invokestatic 239, 3) := by decide +kernel
theorem dX5_debtOf_82 : decode cX5_debtOf 82 = .ok (.i2l, 1) := by decide +kernel
theorem dX5_debtOf_83 : decode cX5_debtOf 83 = .ok (.lmul, 1) := by decide +kernel
theorem dX5_debtOf_84 : decode cX5_debtOf 84 = .ok (.iload 5, 2) := by decide +kernel
theorem dX5_debtOf_86 : decode cX5_debtOf 86 = .ok (.i2l, 1) := by decide +kernel
theorem dX5_debtOf_87 : decode cX5_debtOf 87 = .ok (.ldiv, 1) := by decide +kernel
theorem dX5_debtOf_88 : decode cX5_debtOf 88 = .ok (.lreturn, 1) := by decide +kernel
theorem dX5_backTo_0 : decode cX5_backTo 0 = .ok (.aload_n 0, 1) := by decide +kernel
theorem dX5_backTo_1 : decode cX5_backTo 1 = .ok (.iconst 3, 1) := by decide +kernel
theorem dX5_backTo_2 : decode cX5_backTo 2 = .ok (.iaload, 1) := by decide +kernel
theorem dX5_backTo_3 : decode cX5_backTo 3 = .ok (.ifCond .eq 30, 3) := by decide +kernel
theorem dX5_backTo_6 : decode cX5_backTo 6 = .ok (.aload_n 0, 1) := by decide +kernel
theorem dX5_backTo_7 : decode cX5_backTo 7 = .ok (.iload_n 1, 1) := by decide +kernel
theorem dX5_backTo_8 : decode cX5_backTo 8 = .ok (.iconst 0, 1) := by decide +kernel
theorem dX5_backTo_9 : decode cX5_backTo 9 = .ok (.invokestatic 255, 3) := by decide +kernel
theorem dX5_backTo_12 : decode cX5_backTo 12 = .ok (.ifCond .ne 21, 3) := by decide +kernel
theorem dX5_backTo_15 : decode cX5_backTo 15 = .ok (.aload_n 0, 1) := by decide +kernel
theorem dX5_backTo_16 : decode cX5_backTo 16 = .ok (.iload_n 1, 1) := by decide +kernel
theorem dX5_backTo_17 : decode cX5_backTo 17 = .ok (.invokestatic 252, 3) := by decide +kernel
theorem dX5_backTo_20 : decode cX5_backTo 20 = .ok (.ifCond .lt 13, 3) := by decide +kernel
theorem dX5_backTo_23 : decode cX5_backTo 23 = .ok (.aload_n 0, 1) := by decide +kernel
theorem dX5_backTo_24 : decode cX5_backTo 24 = .ok (.iload_n 1, 1) := by decide +kernel
theorem dX5_backTo_25 : decode cX5_backTo 25 = .ok (.iconst 1, 1) := by decide +kernel
theorem dX5_backTo_26 : decode cX5_backTo 26 = .ok (.invokestatic 255, 3) := by decide +kernel
theorem dX5_backTo_29 : decode cX5_backTo 29 = .ok (.iload_n 2, 1) := by decide +kernel
theorem dX5_backTo_30 : decode cX5_backTo 30 = .ok (.if_icmp .ne 5, 3) := by decide +kernel
theorem dX5_backTo_33 : decode cX5_backTo 33 = .ok (.lconst 0, 1) := by decide +kernel
theorem dX5_backTo_34 : decode cX5_backTo 34 = .ok (.lreturn, 1) := by decide +kernel
theorem dX5_backTo_35 : decode cX5_backTo 35 = .ok (.aload_n 0, 1) := by decide +kernel
theorem dX5_backTo_36 : decode cX5_backTo 36 = .ok (.iload_n 2, 1) := by decide +kernel
theorem dX5_backTo_37 : decode cX5_backTo 37 = .ok (.iload_n 1, 1) := by decide +kernel
theorem dX5_backTo_38 : decode cX5_backTo 38 = .ok (.invokestatic 266, 3) := by decide +kernel
theorem dX5_backTo_41 : decode cX5_backTo 41 = .ok (.aload_n 0, 1) := by decide +kernel
theorem dX5_backTo_42 : decode cX5_backTo 42 = .ok (.iload_n 2, 1) := by decide +kernel
theorem dX5_backTo_43 : decode cX5_backTo 43 = .ok (.aload_n 0, 1) := by decide +kernel
theorem dX5_backTo_44 : decode cX5_backTo 44 = .ok (.iload_n 1, 1) := by decide +kernel
theorem dX5_backTo_45 : decode cX5_backTo 45 = .ok (.iconst 2, 1) := by decide +kernel
theorem dX5_backTo_46 : decode cX5_backTo 46 = .ok (.invokestatic 255, 3) := by decide +kernel
theorem dX5_backTo_49 : decode cX5_backTo 49 = .ok (.i2l, 1) := by decide +kernel
theorem dX5_backTo_50 : decode cX5_backTo 50 = .ok (.invokestatic 262, 3) := by decide +kernel
theorem dX5_backTo_53 : decode cX5_backTo 53 = .ok (.lsub, 1) := by decide +kernel
theorem dX5_backTo_54 : decode cX5_backTo 54 = .ok (.lreturn, 1) := by decide +kernel
theorem dX5_backOf_0 : decode cX5_backOf 0 = .ok (.lconst 0, 1) := by decide +kernel
theorem dX5_backOf_1 : decode cX5_backOf 1 = .ok (.lstore_n 2, 1) := by decide +kernel
theorem dX5_backOf_2 : decode cX5_backOf 2 = .ok (.iconst 0, 1) := by decide +kernel
theorem dX5_backOf_3 : decode cX5_backOf 3 = .ok (.istore 4, 2) := by decide +kernel
theorem dX5_backOf_5 : decode cX5_backOf 5 = .ok (.iload 4, 2) := by decide +kernel
theorem dX5_backOf_7 : decode cX5_backOf 7 = .ok (.aload_n 0, 1) := by decide +kernel
theorem dX5_backOf_8 : decode cX5_backOf 8 = .ok (.iconst 0, 1) := by decide +kernel
theorem dX5_backOf_9 : decode cX5_backOf 9 = .ok (.iaload, 1) := by decide +kernel
theorem dX5_backOf_10 : decode cX5_backOf 10 = .ok (.if_icmp .ge 19, 3) := by decide +kernel
theorem dX5_backOf_13 : decode cX5_backOf 13 = .ok (.lload_n 2, 1) := by decide +kernel
theorem dX5_backOf_14 : decode cX5_backOf 14 = .ok (.aload_n 0, 1) := by decide +kernel
theorem dX5_backOf_15 : decode cX5_backOf 15 = .ok (.iload_n 1, 1) := by decide +kernel
theorem dX5_backOf_16 : decode cX5_backOf 16 = .ok (.iload 4, 2) := by decide +kernel
theorem dX5_backOf_18 : decode cX5_backOf 18 = .ok (.invokestatic 270, 3) := by decide +kernel
theorem dX5_backOf_21 : decode cX5_backOf 21 = .ok (.ladd, 1) := by decide +kernel
theorem dX5_backOf_22 : decode cX5_backOf 22 = .ok (.lstore_n 2, 1) := by decide +kernel
theorem dX5_backOf_23 : decode cX5_backOf 23 = .ok (.iinc 4 1, 3) := by decide +kernel
theorem dX5_backOf_26 : decode cX5_backOf 26 = .ok (.goto (-21), 3) := by decide +kernel
theorem dX5_backOf_29 : decode cX5_backOf 29 = .ok (.lload_n 2, 1) := by decide +kernel
theorem dX5_backOf_30 : decode cX5_backOf 30 = .ok (.lreturn, 1) := by decide +kernel
theorem dX5_hullOwed_0 : decode cX5_hullOwed 0 = .ok (.aload_n 0, 1) := by decide +kernel
theorem dX5_hullOwed_1 : decode cX5_hullOwed 1 = .ok (.iload_n 1, 1) := by decide +kernel
theorem dX5_hullOwed_2 : decode cX5_hullOwed 2 = .ok (.aload_n 0, 1) := by decide +kernel
theorem dX5_hullOwed_3 : decode cX5_hullOwed 3 = .ok (.iload_n 2, 1) := by decide +kernel
theorem dX5_hullOwed_4 : decode cX5_hullOwed 4 = .ok (.iconst 2, 1) := by decide +kernel
theorem dX5_hullOwed_5 : decode cX5_hullOwed 5 = .ok (.invokestatic 243, 3) := by decide +kernel
theorem dX5_hullOwed_8 : decode cX5_hullOwed 8 = .ok (.i2l, 1) := by decide +kernel
theorem dX5_hullOwed_9 : decode cX5_hullOwed 9 = .ok (.invokestatic 262, 3) := by decide +kernel
theorem dX5_hullOwed_12 : decode cX5_hullOwed 12 = .ok (.lreturn, 1) := by decide +kernel
theorem dX5_backOwed_0 : decode cX5_backOwed 0 = .ok (.lconst 0, 1) := by decide +kernel
theorem dX5_backOwed_1 : decode cX5_backOwed 1 = .ok (.lstore_n 3, 1) := by decide +kernel
theorem dX5_backOwed_2 : decode cX5_backOwed 2 = .ok (.iconst 0, 1) := by decide +kernel
theorem dX5_backOwed_3 : decode cX5_backOwed 3 = .ok (.istore 5, 2) := by decide +kernel
theorem dX5_backOwed_5 : decode cX5_backOwed 5 = .ok (.iload 5, 2) := by decide +kernel
theorem dX5_backOwed_7 : decode cX5_backOwed 7 = .ok (.aload_n 0, 1) := by decide +kernel
theorem dX5_backOwed_8 : decode cX5_backOwed 8 = .ok (.iconst 1, 1) := by decide +kernel
theorem dX5_backOwed_9 : decode cX5_backOwed 9 = .ok (.iaload, 1) := by decide +kernel
theorem dX5_backOwed_10 : decode cX5_backOwed 10 = .ok (.if_icmp .ge 34, 3) := by decide +kernel
theorem dX5_backOwed_13 : decode cX5_backOwed 13 = .ok (.lload_n 3, 1) := by decide +kernel
theorem dX5_backOwed_14 : decode cX5_backOwed 14 = .ok (.aload_n 0, 1) := by decide +kernel
theorem dX5_backOwed_15 : decode cX5_backOwed 15 = .ok (.iload 5, 2) := by decide +kernel
theorem dX5_backOwed_17 : decode cX5_backOwed 17 = .ok (.iconst 1, 1) := by decide +kernel
theorem dX5_backOwed_18 : decode cX5_backOwed 18 = .ok (.invokestatic 255, 3) := by decide +kernel
theorem dX5_backOwed_21 : decode cX5_backOwed 21 = .ok (.iload_n 1, 1) := by decide +kernel
theorem dX5_backOwed_22 : decode cX5_backOwed 22 = .ok (.if_icmp .ne 13, 3) := by decide +kernel
theorem dX5_backOwed_25 : decode cX5_backOwed 25 = .ok (.aload_n 0, 1) := by decide +kernel
theorem dX5_backOwed_26 : decode cX5_backOwed 26 = .ok (.iload 5, 2) := by decide +kernel
theorem dX5_backOwed_28 : decode cX5_backOwed 28 = .ok (.iload_n 2, 1) := by decide +kernel
theorem dX5_backOwed_29 : decode cX5_backOwed 29 = .ok (.invokestatic 270, 3) := by decide +kernel
theorem dX5_backOwed_32 : decode cX5_backOwed 32 = .ok (.goto 4, 3) := by decide +kernel
theorem dX5_backOwed_35 : decode cX5_backOwed 35 = .ok (.lconst 0, 1) := by decide +kernel
theorem dX5_backOwed_36 : decode cX5_backOwed 36 = .ok (.ladd, 1) := by decide +kernel
theorem dX5_backOwed_37 : decode cX5_backOwed 37 = .ok (.lstore_n 3, 1) := by decide +kernel
theorem dX5_backOwed_38 : decode cX5_backOwed 38 = .ok (.iinc 5 1, 3) := by decide +kernel
theorem dX5_backOwed_41 : decode cX5_backOwed 41 = .ok (.goto (-36), 3) := by decide +kernel
theorem dX5_backOwed_44 : decode cX5_backOwed 44 = .ok (.lload_n 3, 1) := by decide +kernel
theorem dX5_backOwed_45 : decode cX5_backOwed 45 = .ok (.lreturn, 1) := by decide +kernel
theorem dX5_bothOwed_0 : decode cX5_bothOwed 0 = .ok (.aload_n 0, 1) := by decide +kernel
theorem dX5_bothOwed_1 : decode cX5_bothOwed 1 = .ok (.iload_n 1, 1) := by decide +kernel
theorem dX5_bothOwed_2 : decode cX5_bothOwed 2 = .ok (.iload_n 2, 1) := by decide +kernel
theorem dX5_bothOwed_3 : decode cX5_bothOwed 3 = .ok (.invokestatic 273, 3) := by decide +kernel
theorem dX5_bothOwed_6 : decode cX5_bothOwed 6 = .ok (.aload_n 0, 1) := by decide +kernel
theorem dX5_bothOwed_7 : decode cX5_bothOwed 7 = .ok (.iload_n 1, 1) := by decide +kernel
theorem dX5_bothOwed_8 : decode cX5_bothOwed 8 = .ok (.iload_n 2, 1) := by decide +kernel
theorem dX5_bothOwed_9 : decode cX5_bothOwed 9 = .ok (.invokestatic 276, 3) := by decide +kernel
theorem dX5_bothOwed_12 : decode cX5_bothOwed 12 = .ok (.ladd, 1) := by decide +kernel
theorem dX5_bothOwed_13 : decode cX5_bothOwed 13 = .ok (.lreturn, 1) := by decide +kernel
theorem dX5_lawOwed_0 : decode cX5_lawOwed 0 = .ok (.iload_n 1, 1) := by decide +kernel
theorem dX5_lawOwed_1 : decode cX5_lawOwed 1 = .ok (.iload_n 2, 1) := by decide +kernel
theorem dX5_lawOwed_2 : decode cX5_lawOwed 2 = .ok (.if_icmp .ne 5, 3) := by decide +kernel
theorem dX5_lawOwed_5 : decode cX5_lawOwed 5 = .ok (.lconst 0, 1) := by decide +kernel
theorem dX5_lawOwed_6 : decode cX5_lawOwed 6 = .ok (.lreturn, 1) := by decide +kernel
theorem dX5_lawOwed_7 : decode cX5_lawOwed 7 = .ok (.aload_n 0, 1) := by decide +kernel
theorem dX5_lawOwed_8 : decode cX5_lawOwed 8 = .ok (.iload_n 1, 1) := by decide +kernel
theorem dX5_lawOwed_9 : decode cX5_lawOwed 9 = .ok (.iload_n 2, 1) := by decide +kernel
theorem dX5_lawOwed_10 : decode cX5_lawOwed 10 = .ok (.invokestatic 279, 3) := by decide +kernel
theorem dX5_lawOwed_13 : decode cX5_lawOwed 13 = .ok (.lstore_n 3, 1) := by decide +kernel
theorem dX5_lawOwed_14 : decode cX5_lawOwed 14 = .ok (.aload_n 0, 1) := by decide +kernel
theorem dX5_lawOwed_15 : decode cX5_lawOwed 15 = .ok (.iconst 4, 1) := by decide +kernel
theorem dX5_lawOwed_16 : decode cX5_lawOwed 16 = .ok (.iaload, 1) := by decide +kernel
theorem dX5_lawOwed_17 : decode cX5_lawOwed 17 = .ok (.iconst 1, 1) := by decide +kernel
theorem dX5_lawOwed_18 : decode cX5_lawOwed 18 = .ok (.if_icmp .ne 7, 3) := by decide +kernel
theorem dX5_lawOwed_21 : decode cX5_lawOwed 21 = .ok (.lload_n 3, 1) := by decide +kernel
theorem dX5_lawOwed_22 : decode cX5_lawOwed 22 = .ok (.goto 15, 3) := by decide +kernel
theorem dX5_lawOwed_25 : decode cX5_lawOwed 25 = .ok (.lload_n 3, 1) := by decide +kernel
theorem dX5_lawOwed_26 : decode cX5_lawOwed 26 = .ok (.lload_n 3, 1) := by decide +kernel
theorem dX5_lawOwed_27 : decode cX5_lawOwed 27 = .ok (.aload_n 0, 1) := by decide +kernel
theorem dX5_lawOwed_28 : decode cX5_lawOwed 28 = .ok (.iload_n 2, 1) := by decide +kernel
theorem dX5_lawOwed_29 : decode cX5_lawOwed 29 = .ok (.iload_n 1, 1) := by decide +kernel
theorem dX5_lawOwed_30 : decode cX5_lawOwed 30 = .ok (.invokestatic 279, 3) := by decide +kernel
theorem dX5_lawOwed_33 : decode cX5_lawOwed 33 = .ok (.invokestatic 282, 3) := by decide +kernel
theorem dX5_lawOwed_36 : decode cX5_lawOwed 36 = .ok (.lsub, 1) := by decide +kernel
theorem dX5_lawOwed_37 : decode cX5_lawOwed 37 = .ok (.lreturn, 1) := by decide +kernel
theorem dX5_fundOf_0 : decode cX5_fundOf 0 = .ok (.aload_n 0, 1) := by decide +kernel
theorem dX5_fundOf_1 : decode cX5_fundOf 1 = .ok (.iload_n 1, 1) := by decide +kernel
theorem dX5_fundOf_2 : decode cX5_fundOf 2 = .ok (.iconst 0, 1) := by decide +kernel
theorem dX5_fundOf_3 : decode cX5_fundOf 3 = .ok (.invokestatic 243, 3) := by decide +kernel
theorem dX5_fundOf_6 : decode cX5_fundOf 6 = .ok (.i2l, 1) := by decide +kernel
theorem dX5_fundOf_7 : decode cX5_fundOf 7 = .ok (.aload_n 0, 1) := by decide +kernel
theorem dX5_fundOf_8 : decode cX5_fundOf 8 = .ok (.bipush 7, 2) := by decide +kernel
theorem dX5_fundOf_10 : decode cX5_fundOf 10 = .ok (.iaload, 1) := by decide +kernel
theorem dX5_fundOf_11 : decode cX5_fundOf 11 = .ok (.i2l, 1) := by decide +kernel
theorem dX5_fundOf_12 : decode cX5_fundOf 12 = .ok (.invokestatic 286, 3) := by decide +kernel
theorem dX5_fundOf_15 : decode cX5_fundOf 15 = .ok (.lstore_n 3, 1) := by decide +kernel
theorem dX5_fundOf_16 : decode cX5_fundOf 16 = .ok (.ldc2_w 289, 3) := by decide +kernel
theorem dX5_fundOf_19 : decode cX5_fundOf 19 = .ok (.lload_n 3, 1) := by decide +kernel
theorem dX5_fundOf_20 : decode cX5_fundOf 20 = .ok (.aload_n 0, 1) := by decide +kernel
theorem dX5_fundOf_21 : decode cX5_fundOf 21 = .ok (.iload_n 2, 1) := by decide +kernel
theorem dX5_fundOf_22 : decode cX5_fundOf 22 = .ok (.iaload, 1) := by decide +kernel
theorem dX5_fundOf_23 : decode cX5_fundOf 23 = .ok (.i2l, 1) := by decide +kernel
theorem dX5_fundOf_24 : decode cX5_fundOf 24 = .ok (.lmul, 1) := by decide +kernel
theorem dX5_fundOf_25 : decode cX5_fundOf 25 = .ok (.invokestatic 282, 3) := by decide +kernel
theorem dX5_fundOf_28 : decode cX5_fundOf 28 = .ok (.lreturn, 1) := by decide +kernel
theorem dX5_shares_0 : decode cX5_shares 0 = .ok (.lconst 0, 1) := by decide +kernel
theorem dX5_shares_1 : decode cX5_shares 1 = .ok (.lstore_n 3, 1) := by decide +kernel
theorem dX5_shares_2 : decode cX5_shares 2 = .ok (.iconst 0, 1) := by decide +kernel
theorem dX5_shares_3 : decode cX5_shares 3 = .ok (.istore 5, 2) := by decide +kernel
theorem dX5_shares_5 : decode cX5_shares 5 = .ok (.iload 5, 2) := by decide +kernel
theorem dX5_shares_7 : decode cX5_shares 7 = .ok (.bipush 16, 2) := by decide +kernel
theorem dX5_shares_9 : decode cX5_shares 9 = .ok (.if_icmp .ge 19, 3) := by decide +kernel
theorem dX5_shares_12 : decode cX5_shares 12 = .ok (.lload_n 3, 1) := by decide +kernel
theorem dX5_shares_13 : decode cX5_shares 13 = .ok (.aload_n 0, 1) := by decide +kernel
theorem dX5_shares_14 : decode cX5_shares 14 = .ok (.getfield 43, 3) := by decide +kernel
theorem dX5_shares_17 : decode cX5_shares 17 = .ok (.iload 5, 2) := by decide +kernel
theorem dX5_shares_19 : decode cX5_shares 19 = .ok (.laload, 1) := by decide +kernel
theorem dX5_shares_20 : decode cX5_shares 20 = .ok (.ladd, 1) := by decide +kernel
theorem dX5_shares_21 : decode cX5_shares 21 = .ok (.lstore_n 3, 1) := by decide +kernel
theorem dX5_shares_22 : decode cX5_shares 22 = .ok (.iinc 5 1, 3) := by decide +kernel
theorem dX5_shares_25 : decode cX5_shares 25 = .ok (.goto (-20), 3) := by decide +kernel
theorem dX5_shares_28 : decode cX5_shares 28 = .ok (.lload_n 3, 1) := by decide +kernel
theorem dX5_shares_29 : decode cX5_shares 29 = .ok (.lload_n 1, 1) := by decide +kernel
theorem dX5_shares_30 : decode cX5_shares 30 = .ok (.lcmp, 1) := by decide +kernel
theorem dX5_shares_31 : decode cX5_shares 31 = .ok (.ifCond .gt 40, 3) := by decide +kernel
theorem dX5_shares_34 : decode cX5_shares 34 = .ok (.iconst 0, 1) := by decide +kernel
theorem dX5_shares_35 : decode cX5_shares 35 = .ok (.istore 5, 2) := by decide +kernel
theorem dX5_shares_37 : decode cX5_shares 37 = .ok (.iload 5, 2) := by decide +kernel
theorem dX5_shares_39 : decode cX5_shares 39 = .ok (.bipush 16, 2) := by decide +kernel
theorem dX5_shares_41 : decode cX5_shares 41 = .ok (.if_icmp .ge 26, 3) := by decide +kernel
theorem dX5_shares_44 : decode cX5_shares 44 = .ok (.aload_n 0, 1) := by decide +kernel
theorem dX5_shares_45 : decode cX5_shares 45 = .ok (.getfield 46, 3) := by decide +kernel
theorem dX5_shares_48 : decode cX5_shares 48 = .ok (.iload 5, 2) := by decide +kernel
theorem dX5_shares_50 : decode cX5_shares 50 = .ok (.dup2, 1) := by decide +kernel
theorem dX5_shares_51 : decode cX5_shares 51 = .ok (.laload, 1) := by decide +kernel
theorem dX5_shares_52 : decode cX5_shares 52 = .ok (.aload_n 0, 1) := by decide +kernel
theorem dX5_shares_53 : decode cX5_shares 53 = .ok (.getfield 43, 3) := by decide +kernel
theorem dX5_shares_56 : decode cX5_shares 56 = .ok (.iload 5, 2) := by decide +kernel
theorem dX5_shares_58 : decode cX5_shares 58 = .ok (.laload, 1) := by decide +kernel
theorem dX5_shares_59 : decode cX5_shares 59 = .ok (.ladd, 1) := by decide +kernel
theorem dX5_shares_60 : decode cX5_shares 60 = .ok (.lastore, 1) := by decide +kernel
theorem dX5_shares_61 : decode cX5_shares 61 = .ok (.iinc 5 1, 3) := by decide +kernel
theorem dX5_shares_64 : decode cX5_shares 64 = .ok (.goto (-27), 3) := by decide +kernel
theorem dX5_shares_67 : decode cX5_shares 67 = .ok (.lload_n 1, 1) := by decide +kernel
theorem dX5_shares_68 : decode cX5_shares 68 = .ok (.lload_n 3, 1) := by decide +kernel
theorem dX5_shares_69 : decode cX5_shares 69 = .ok (.lsub, 1) := by decide +kernel
theorem dX5_shares_70 : decode cX5_shares 70 = .ok (.lreturn, 1) := by decide +kernel
theorem dX5_shares_71 : decode cX5_shares 71 = .ok (.lload_n 1, 1) := by decide +kernel
theorem dX5_shares_72 : decode cX5_shares 72 = .ok (.lstore 5, 2) := by decide +kernel
theorem dX5_shares_74 : decode cX5_shares 74 = .ok (.iconst 0, 1) := by decide +kernel
theorem dX5_shares_75 : decode cX5_shares 75 = .ok (.istore 7, 2) := by decide +kernel
theorem dX5_shares_77 : decode cX5_shares 77 = .ok (.iload 7, 2) := by decide +kernel
theorem dX5_shares_79 : decode cX5_shares 79 = .ok (.bipush 16, 2) := by decide +kernel
theorem dX5_shares_81 : decode cX5_shares 81 = .ok (.if_icmp .ge 25, 3) := by decide +kernel
theorem dX5_shares_84 : decode cX5_shares 84 = .ok (.lload 5, 2) := by decide +kernel
theorem dX5_shares_86 : decode cX5_shares 86 = .ok (.aload_n 0, 1) := by decide +kernel
theorem dX5_shares_87 : decode cX5_shares 87 = .ok (.getfield 43, 3) := by decide +kernel
theorem dX5_shares_90 : decode cX5_shares 90 = .ok (.iload 7, 2) := by decide +kernel
theorem dX5_shares_92 : decode cX5_shares 92 = .ok (.laload, 1) := by decide +kernel
theorem dX5_shares_93 : decode cX5_shares 93 = .ok (.lload_n 1, 1) := by decide +kernel
theorem dX5_shares_94 : decode cX5_shares 94 = .ok (.lmul, 1) := by decide +kernel
theorem dX5_shares_95 : decode cX5_shares 95 = .ok (.lload_n 3, 1) := by decide +kernel
theorem dX5_shares_96 : decode cX5_shares 96 = .ok (.ldiv, 1) := by decide +kernel
theorem dX5_shares_97 : decode cX5_shares 97 = .ok (.lsub, 1) := by decide +kernel
theorem dX5_shares_98 : decode cX5_shares 98 = .ok (.lstore 5, 2) := by decide +kernel
theorem dX5_shares_100 : decode cX5_shares 100 = .ok (.iinc 7 1, 3) := by decide +kernel
theorem dX5_shares_103 : decode cX5_shares 103 = .ok (.goto (-26), 3) := by decide +kernel
theorem dX5_shares_106 : decode cX5_shares 106 = .ok (.iconst 0, 1) := by decide +kernel
theorem dX5_shares_107 : decode cX5_shares 107 = .ok (.istore 7, 2) := by decide +kernel
theorem dX5_shares_109 : decode cX5_shares 109 = .ok (.iload 7, 2) := by decide +kernel
theorem dX5_shares_111 : decode cX5_shares 111 = .ok (.bipush 16, 2) := by decide +kernel
theorem dX5_shares_113 : decode cX5_shares 113 = .ok (.if_icmp .ge 66, 3) := by decide +kernel
theorem dX5_shares_116 : decode cX5_shares 116 = .ok (.aload_n 0, 1) := by decide +kernel
theorem dX5_shares_117 : decode cX5_shares 117 = .ok (.getfield 43, 3) := by decide +kernel
theorem dX5_shares_120 : decode cX5_shares 120 = .ok (.iload 7, 2) := by decide +kernel
theorem dX5_shares_122 : decode cX5_shares 122 = .ok (.laload, 1) := by decide +kernel
theorem dX5_shares_123 : decode cX5_shares 123 = .ok (.lload_n 1, 1) := by decide +kernel
theorem dX5_shares_124 : decode cX5_shares 124 = .ok (.lmul, 1) := by decide +kernel
theorem dX5_shares_125 : decode cX5_shares 125 = .ok (.lload_n 3, 1) := by decide +kernel
theorem dX5_shares_126 : decode cX5_shares 126 = .ok (.ldiv, 1) := by decide +kernel
theorem dX5_shares_127 : decode cX5_shares 127 = .ok (.lstore 8, 2) := by decide +kernel
theorem dX5_shares_129 : decode cX5_shares 129 = .ok (.lload 5, 2) := by decide +kernel
theorem dX5_shares_131 : decode cX5_shares 131 = .ok (.lconst 0, 1) := by decide +kernel
theorem dX5_shares_132 : decode cX5_shares 132 = .ok (.lcmp, 1) := by decide +kernel
theorem dX5_shares_133 : decode cX5_shares 133 = .ok (.ifCond .le 28, 3) := by decide +kernel
theorem dX5_shares_136 : decode cX5_shares 136 = .ok (.lload 8, 2) := by decide +kernel
theorem dX5_shares_138 : decode cX5_shares 138 = .ok (.aload_n 0, 1) := by decide +kernel
theorem dX5_shares_139 : decode cX5_shares 139 = .ok (.getfield 43, 3) := by decide +kernel
theorem dX5_shares_142 : decode cX5_shares 142 = .ok (.iload 7, 2) := by decide +kernel
theorem dX5_shares_144 : decode cX5_shares 144 = .ok (.laload, 1) := by decide +kernel
theorem dX5_shares_145 : decode cX5_shares 145 = .ok (.lcmp, 1) := by decide +kernel
theorem dX5_shares_146 : decode cX5_shares 146 = .ok (.ifCond .ge 15, 3) := by decide +kernel
theorem dX5_shares_149 : decode cX5_shares 149 = .ok (.lload 8, 2) := by decide +kernel
theorem dX5_shares_151 : decode cX5_shares 151 = .ok (.lconst 1, 1) := by decide +kernel
theorem dX5_shares_152 : decode cX5_shares 152 = .ok (.ladd, 1) := by decide +kernel
theorem dX5_shares_153 : decode cX5_shares 153 = .ok (.lstore 8, 2) := by decide +kernel
theorem dX5_shares_155 : decode cX5_shares 155 = .ok (.lload 5, 2) := by decide +kernel
theorem dX5_shares_157 : decode cX5_shares 157 = .ok (.lconst 1, 1) := by decide +kernel
theorem dX5_shares_158 : decode cX5_shares 158 = .ok (.lsub, 1) := by decide +kernel
theorem dX5_shares_159 : decode cX5_shares 159 = .ok (.lstore 5, 2) := by decide +kernel
theorem dX5_shares_161 : decode cX5_shares 161 = .ok (.aload_n 0, 1) := by decide +kernel
theorem dX5_shares_162 : decode cX5_shares 162 = .ok (.getfield 46, 3) := by decide +kernel
theorem dX5_shares_165 : decode cX5_shares 165 = .ok (.iload 7, 2) := by decide +kernel
theorem dX5_shares_167 : decode cX5_shares 167 = .ok (.dup2, 1) := by decide +kernel
theorem dX5_shares_168 : decode cX5_shares 168 = .ok (.laload, 1) := by decide +kernel
theorem dX5_shares_169 : decode cX5_shares 169 = .ok (.lload 8, 2) := by decide +kernel
theorem dX5_shares_171 : decode cX5_shares 171 = .ok (.ladd, 1) := by decide +kernel
theorem dX5_shares_172 : decode cX5_shares 172 = .ok (.lastore, 1) := by decide +kernel
theorem dX5_shares_173 : decode cX5_shares 173 = .ok (.iinc 7 1, 3) := by decide +kernel
theorem dX5_shares_176 : decode cX5_shares 176 = .ok (.goto (-67), 3) := by decide +kernel
theorem dX5_shares_179 : decode cX5_shares 179 = .ok (.lload 5, 2) := by decide +kernel
theorem dX5_shares_181 : decode cX5_shares 181 = .ok (.lreturn, 1) := by decide +kernel
theorem dX5_clears_0 : decode cX5_clears 0 = .ok (.iconst 0, 1) := by decide +kernel
theorem dX5_clears_1 : decode cX5_clears 1 = .ok (.istore_n 2, 1) := by decide +kernel
theorem dX5_clears_2 : decode cX5_clears 2 = .ok (.iload_n 2, 1) := by decide +kernel
theorem dX5_clears_3 : decode cX5_clears 3 = .ok (.bipush 16, 2) := by decide +kernel
theorem dX5_clears_5 : decode cX5_clears 5 = .ok (.if_icmp .ge 13, 3) := by decide +kernel
theorem dX5_clears_8 : decode cX5_clears 8 = .ok (.aload_n 1, 1) := by decide +kernel
theorem dX5_clears_9 : decode cX5_clears 9 = .ok (.iload_n 2, 1) := by decide +kernel
theorem dX5_clears_10 : decode cX5_clears 10 = .ok (.lconst 0, 1) := by decide +kernel
theorem dX5_clears_11 : decode cX5_clears 11 = .ok (.lastore, 1) := by decide +kernel
theorem dX5_clears_12 : decode cX5_clears 12 = .ok (.iinc 2 1, 3) := by decide +kernel
theorem dX5_clears_15 : decode cX5_clears 15 = .ok (.goto (-13), 3) := by decide +kernel
theorem dX5_clears_18 : decode cX5_clears 18 = .ok (.return_, 1) := by decide +kernel
theorem dX5_owesPersons_0 : decode cX5_owesPersons 0 = .ok (.aload_n 0, 1) := by decide +kernel
theorem dX5_owesPersons_1 : decode cX5_owesPersons 1 = .ok (.aload_n 0, 1) := by decide +kernel
theorem dX5_owesPersons_2 : decode cX5_owesPersons 2 = .ok (.getfield 43, 3) := by decide +kernel
theorem dX5_owesPersons_5 : decode cX5_owesPersons 5 = .ok (.invokevirtual 291, 3) := by decide +kernel
theorem dX5_owesPersons_8 : decode cX5_owesPersons 8 = .ok (.iconst 0, 1) := by decide +kernel
theorem dX5_owesPersons_9 : decode cX5_owesPersons 9 = .ok (.istore_n 3, 1) := by decide +kernel
theorem dX5_owesPersons_10 : decode cX5_owesPersons 10 = .ok (.iload_n 3, 1) := by decide +kernel
theorem dX5_owesPersons_11 : decode cX5_owesPersons 11 = .ok (.aload_n 0, 1) := by decide +kernel
theorem dX5_owesPersons_12 : decode cX5_owesPersons 12 = .ok (.getfield 17, 3) := by decide +kernel
theorem dX5_owesPersons_15 : decode cX5_owesPersons 15 = .ok (.iconst 1, 1) := by decide +kernel
theorem dX5_owesPersons_16 : decode cX5_owesPersons 16 = .ok (.iaload, 1) := by decide +kernel
theorem dX5_owesPersons_17 : decode cX5_owesPersons 17 = .ok (.if_icmp .ge 51, 3) := by decide +kernel
theorem dX5_owesPersons_20 : decode cX5_owesPersons 20 = .ok (.aload_n 0, 1) := by decide +kernel
theorem dX5_owesPersons_21 : decode cX5_owesPersons 21 = .ok (.getfield 17, 3) := by decide +kernel
theorem dX5_owesPersons_24 : decode cX5_owesPersons 24 = .ok (.iload_n 3, 1) := by decide +kernel
theorem dX5_owesPersons_25 : decode cX5_owesPersons 25 = .ok (.iconst 0, 1) := by decide +kernel
theorem dX5_owesPersons_26 : decode cX5_owesPersons 26 = .ok (.invokestatic 255, 3) := by decide +kernel
theorem dX5_owesPersons_29 : decode cX5_owesPersons 29 = .ok (.iconst 1, 1) := by decide +kernel
theorem dX5_owesPersons_30 : decode cX5_owesPersons 30 = .ok (.if_icmp .ne 32, 3) := by decide +kernel
theorem dX5_owesPersons_33 : decode cX5_owesPersons 33 = .ok (.aload_n 0, 1) := by decide +kernel
theorem dX5_owesPersons_34 : decode cX5_owesPersons 34 = .ok (.getfield 17, 3) := by decide +kernel
theorem dX5_owesPersons_37 : decode cX5_owesPersons 37 = .ok (.iload_n 3, 1) := by decide +kernel
theorem dX5_owesPersons_38 : decode cX5_owesPersons 38 = .ok (.invokestatic 252, 3) := by decide +kernel
theorem dX5_owesPersons_41 : decode cX5_owesPersons 41 = .ok (.iload_n 2, 1) := by decide +kernel
theorem dX5_owesPersons_42 : decode cX5_owesPersons 42 = .ok (.if_icmp .ne 20, 3) := by decide +kernel
theorem dX5_owesPersons_45 : decode cX5_owesPersons 45 = .ok (.aload_n 0, 1) := by decide +kernel
theorem dX5_owesPersons_46 : decode cX5_owesPersons 46 = .ok (.getfield 43, 3) := by decide +kernel
theorem dX5_owesPersons_49 : decode cX5_owesPersons 49 = .ok (.iconst 4, 1) := by decide +kernel
theorem dX5_owesPersons_50 : decode cX5_owesPersons 50 = .ok (.iload_n 3, 1) := by decide +kernel
theorem dX5_owesPersons_51 : decode cX5_owesPersons 51 = .ok (.iadd, 1) := by decide +kernel
theorem dX5_owesPersons_52 : decode cX5_owesPersons 52 = .ok (.aload_n 0, 1) := by decide +kernel
theorem dX5_owesPersons_53 : decode cX5_owesPersons 53 = .ok (.getfield 17, 3) := by decide +kernel
theorem dX5_owesPersons_56 : decode cX5_owesPersons 56 = .ok (.iload_n 1, 1) := by decide +kernel
theorem dX5_owesPersons_57 : decode cX5_owesPersons 57 = .ok (.iload_n 3, 1) := by decide +kernel
theorem dX5_owesPersons_58 : decode cX5_owesPersons 58 = .ok (.invokestatic 266, 3) := by decide +kernel
theorem dX5_owesPersons_61 : decode cX5_owesPersons 61 = .ok (.lastore, 1) := by decide +kernel
theorem dX5_owesPersons_62 : decode cX5_owesPersons 62 = .ok (.iinc 3 1, 3) := by decide +kernel
theorem dX5_owesPersons_65 : decode cX5_owesPersons 65 = .ok (.goto (-55), 3) := by decide +kernel
theorem dX5_owesPersons_68 : decode cX5_owesPersons 68 = .ok (.return_, 1) := by decide +kernel
theorem dX5_owesAll_0 : decode cX5_owesAll 0 = .ok (.aload_n 0, 1) := by decide +kernel
theorem dX5_owesAll_1 : decode cX5_owesAll 1 = .ok (.aload_n 0, 1) := by decide +kernel
theorem dX5_owesAll_2 : decode cX5_owesAll 2 = .ok (.getfield 43, 3) := by decide +kernel
theorem dX5_owesAll_5 : decode cX5_owesAll 5 = .ok (.invokevirtual 291, 3) := by decide +kernel
theorem dX5_owesAll_8 : decode cX5_owesAll 8 = .ok (.iconst 0, 1) := by decide +kernel
theorem dX5_owesAll_9 : decode cX5_owesAll 9 = .ok (.istore_n 3, 1) := by decide +kernel
theorem dX5_owesAll_10 : decode cX5_owesAll 10 = .ok (.iload_n 3, 1) := by decide +kernel
theorem dX5_owesAll_11 : decode cX5_owesAll 11 = .ok (.aload_n 0, 1) := by decide +kernel
theorem dX5_owesAll_12 : decode cX5_owesAll 12 = .ok (.getfield 17, 3) := by decide +kernel
theorem dX5_owesAll_15 : decode cX5_owesAll 15 = .ok (.iconst 0, 1) := by decide +kernel
theorem dX5_owesAll_16 : decode cX5_owesAll 16 = .ok (.iaload, 1) := by decide +kernel
theorem dX5_owesAll_17 : decode cX5_owesAll 17 = .ok (.if_icmp .ge 28, 3) := by decide +kernel
theorem dX5_owesAll_20 : decode cX5_owesAll 20 = .ok (.iload_n 2, 1) := by decide +kernel
theorem dX5_owesAll_21 : decode cX5_owesAll 21 = .ok (.ifCond .ne 24, 3) := by decide +kernel
theorem dX5_owesAll_24 : decode cX5_owesAll 24 = .ok (.aload_n 0, 1) := by decide +kernel
theorem dX5_owesAll_25 : decode cX5_owesAll 25 = .ok (.getfield 43, 3) := by decide +kernel
theorem dX5_owesAll_28 : decode cX5_owesAll 28 = .ok (.iload_n 3, 1) := by decide +kernel
theorem dX5_owesAll_29 : decode cX5_owesAll 29 = .ok (.aload_n 0, 1) := by decide +kernel
theorem dX5_owesAll_30 : decode cX5_owesAll 30 = .ok (.getfield 17, 3) := by decide +kernel
theorem dX5_owesAll_33 : decode cX5_owesAll 33 = .ok (.iload_n 1, 1) := by decide +kernel
theorem dX5_owesAll_34 : decode cX5_owesAll 34 = .ok (.iload_n 3, 1) := by decide +kernel
theorem dX5_owesAll_35 : decode cX5_owesAll 35 = .ok (.invokestatic 295, 3) := by decide +kernel
theorem dX5_owesAll_38 : decode cX5_owesAll 38 = .ok (.lastore, 1) := by decide +kernel
theorem dX5_owesAll_39 : decode cX5_owesAll 39 = .ok (.iinc 3 1, 3) := by decide +kernel
theorem dX5_owesAll_42 : decode cX5_owesAll 42 = .ok (.goto (-32), 3) := by decide +kernel
theorem dX5_owesAll_45 : decode cX5_owesAll 45 = .ok (.iconst 0, 1) := by decide +kernel
theorem dX5_owesAll_46 : decode cX5_owesAll 46 = .ok (.istore_n 3, 1) := by decide +kernel
theorem dX5_owesAll_47 : decode cX5_owesAll 47 = .ok (.iload_n 3, 1) := by decide +kernel
theorem dX5_owesAll_48 : decode cX5_owesAll 48 = .ok (.aload_n 0, 1) := by decide +kernel
theorem dX5_owesAll_49 : decode cX5_owesAll 49 = .ok (.getfield 17, 3) := by decide +kernel
theorem dX5_owesAll_52 : decode cX5_owesAll 52 = .ok (.iconst 1, 1) := by decide +kernel
theorem dX5_owesAll_53 : decode cX5_owesAll 53 = .ok (.iaload, 1) := by decide +kernel
theorem dX5_owesAll_54 : decode cX5_owesAll 54 = .ok (.if_icmp .ge 47, 3) := by decide +kernel
theorem dX5_owesAll_57 : decode cX5_owesAll 57 = .ok (.aload_n 0, 1) := by decide +kernel
theorem dX5_owesAll_58 : decode cX5_owesAll 58 = .ok (.getfield 17, 3) := by decide +kernel
theorem dX5_owesAll_61 : decode cX5_owesAll 61 = .ok (.iload_n 3, 1) := by decide +kernel
theorem dX5_owesAll_62 : decode cX5_owesAll 62 = .ok (.invokestatic 252, 3) := by decide +kernel
theorem dX5_owesAll_65 : decode cX5_owesAll 65 = .ok (.iload_n 2, 1) := by decide +kernel
theorem dX5_owesAll_66 : decode cX5_owesAll 66 = .ok (.if_icmp .ne 29, 3) := by decide +kernel
theorem dX5_owesAll_69 : decode cX5_owesAll 69 = .ok (.aload_n 0, 1) := by decide +kernel
theorem dX5_owesAll_70 : decode cX5_owesAll 70 = .ok (.getfield 43, 3) := by decide +kernel
theorem dX5_owesAll_73 : decode cX5_owesAll 73 = .ok (.iconst 4, 1) := by decide +kernel
theorem dX5_owesAll_74 : decode cX5_owesAll 74 = .ok (.iload_n 3, 1) := by decide +kernel
theorem dX5_owesAll_75 : decode cX5_owesAll 75 = .ok (.iadd, 1) := by decide +kernel
theorem dX5_owesAll_76 : decode cX5_owesAll 76 = .ok (.aload_n 0, 1) := by decide +kernel
theorem dX5_owesAll_77 : decode cX5_owesAll 77 = .ok (.getfield 17, 3) := by decide +kernel
theorem dX5_owesAll_80 : decode cX5_owesAll 80 = .ok (.iload_n 1, 1) := by decide +kernel
theorem dX5_owesAll_81 : decode cX5_owesAll 81 = .ok (.iload_n 3, 1) := by decide +kernel
theorem dX5_owesAll_82 : decode cX5_owesAll 82 = .ok (.invokestatic 266, 3) := by decide +kernel
theorem dX5_owesAll_85 : decode cX5_owesAll 85 = .ok (.aload_n 0, 1) := by decide +kernel
theorem dX5_owesAll_86 : decode cX5_owesAll 86 = .ok (.getfield 46, 3) := by decide +kernel
theorem dX5_owesAll_89 : decode cX5_owesAll 89 = .ok (.iconst 4, 1) := by decide +kernel
theorem dX5_owesAll_90 : decode cX5_owesAll 90 = .ok (.iload_n 3, 1) := by decide +kernel
theorem dX5_owesAll_91 : decode cX5_owesAll 91 = .ok (.iadd, 1) := by decide +kernel
theorem dX5_owesAll_92 : decode cX5_owesAll 92 = .ok (.laload, 1) := by decide +kernel
