theorem dX4_init_0 : decode cX4_init 0 = .ok (.aload_n 0, 1) := by decide +kernel
theorem dX4_init_1 : decode cX4_init 1 = .ok (.invokespecial 1, 3) := by decide +kernel
theorem dX4_init_4 : decode cX4_init 4 = .ok (.aload_n 0, 1) := by decide +kernel
theorem dX4_init_5 : decode cX4_init 5 = .ok (.new 7, 3) := by decide +kernel
theorem dX4_init_8 : decode cX4_init 8 = .ok (.dup, 1) := by decide +kernel
theorem dX4_init_9 : decode cX4_init 9 = .ok (.invokespecial 9, 3) := by decide +kernel
theorem dX4_init_12 : decode cX4_init 12 = .ok (.putfield 10, 3) := by decide +kernel
theorem dX4_init_15 : decode cX4_init 15 = .ok (.aload_n 0, 1) := by decide +kernel
theorem dX4_init_16 : decode cX4_init 16 = .ok (.new 16, 3) := by decide +kernel
theorem dX4_init_19 : decode cX4_init 19 = .ok (.dup, 1) := by decide +kernel
theorem dX4_init_20 : decode cX4_init 20 = .ok (.invokespecial 18, 3) := by decide +kernel
theorem dX4_init_23 : decode cX4_init 23 = .ok (.putfield 19, 3) := by decide +kernel
theorem dX4_init_26 : decode cX4_init 26 = .ok (.aload_n 0, 1) := by decide +kernel
theorem dX4_init_27 : decode cX4_init 27 = .ok (.new 23, 3) := by decide +kernel
theorem dX4_init_30 : decode cX4_init 30 = .ok (.dup, 1) := by decide +kernel
theorem dX4_init_31 : decode cX4_init 31 = .ok (.invokespecial 25, 3) := by decide +kernel
theorem dX4_init_34 : decode cX4_init 34 = .ok (.putfield 26, 3) := by decide +kernel
theorem dX4_init_37 : decode cX4_init 37 = .ok (.aload_n 0, 1) := by decide +kernel
theorem dX4_init_38 : decode cX4_init 38 = .ok (.bipush 10, 2) := by decide +kernel
theorem dX4_init_40 : decode cX4_init 40 = .ok (.anewarray 16, 3) := by decide +kernel
theorem dX4_init_43 : decode cX4_init 43 = .ok (.putfield 30, 3) := by decide +kernel
theorem dX4_init_46 : decode cX4_init 46 = .ok (.aload_n 0, 1) := by decide +kernel
theorem dX4_init_47 : decode cX4_init 47 = .ok (.iconst 2, 1) := by decide +kernel
theorem dX4_init_48 : decode cX4_init 48 = .ok (.anewarray 16, 3) := by decide +kernel
theorem dX4_init_51 : decode cX4_init 51 = .ok (.putfield 34, 3) := by decide +kernel
theorem dX4_init_54 : decode cX4_init 54 = .ok (.aload_n 0, 1) := by decide +kernel
theorem dX4_init_55 : decode cX4_init 55 = .ok (.iconst 2, 1) := by decide +kernel
theorem dX4_init_56 : decode cX4_init 56 = .ok (.newarray .boolean, 2) := by decide +kernel
theorem dX4_init_58 : decode cX4_init 58 = .ok (.putfield 37, 3) := by decide +kernel
theorem dX4_init_61 : decode cX4_init 61 = .ok (.aload_n 0, 1) := by decide +kernel
theorem dX4_init_62 : decode cX4_init 62 = .ok (.iconst 0, 1) := by decide +kernel
theorem dX4_init_63 : decode cX4_init 63 = .ok (.putfield 41, 3) := by decide +kernel
theorem dX4_init_66 : decode cX4_init 66 = .ok (.aload_n 0, 1) := by decide +kernel
theorem dX4_init_67 : decode cX4_init 67 = .ok (.iconst 0, 1) := by decide +kernel
theorem dX4_init_68 : decode cX4_init 68 = .ok (.putfield 45, 3) := by decide +kernel
theorem dX4_init_71 : decode cX4_init 71 = .ok (.aload_n 0, 1) := by decide +kernel
theorem dX4_init_72 : decode cX4_init 72 = .ok (.iconst 0, 1) := by decide +kernel
theorem dX4_init_73 : decode cX4_init 73 = .ok (.putfield 48, 3) := by decide +kernel
theorem dX4_init_76 : decode cX4_init 76 = .ok (.aload_n 0, 1) := by decide +kernel
theorem dX4_init_77 : decode cX4_init 77 = .ok (.iconst 0, 1) := by decide +kernel
theorem dX4_init_78 : decode cX4_init 78 = .ok (.putfield 51, 3) := by decide +kernel
theorem dX4_init_81 : decode cX4_init 81 = .ok (.aload_n 0, 1) := by decide +kernel
theorem dX4_init_82 : decode cX4_init 82 = .ok (.iconst (-1), 1) := by decide +kernel
theorem dX4_init_83 : decode cX4_init 83 = .ok (.putfield 54, 3) := by decide +kernel
theorem dX4_init_86 : decode cX4_init 86 = .ok (.aload_n 0, 1) := by decide +kernel
theorem dX4_init_87 : decode cX4_init 87 = .ok (.iconst 0, 1) := by decide +kernel
theorem dX4_init_88 : decode cX4_init 88 = .ok (.putfield 57, 3) := by decide +kernel
theorem dX4_init_91 : decode cX4_init 91 = .ok (.iconst 0, 1) := by decide +kernel
theorem dX4_init_92 : decode cX4_init 92 = .ok (.istore_n 1, 1) := by decide +kernel
theorem dX4_init_93 : decode cX4_init 93 = .ok (.iload_n 1, 1) := by decide +kernel
theorem dX4_init_94 : decode cX4_init 94 = .ok (.bipush 10, 2) := by decide +kernel
theorem dX4_init_96 : decode cX4_init 96 = .ok (.if_icmp .ge 22, 3) := by decide +kernel
theorem dX4_init_99 : decode cX4_init 99 = .ok (.aload_n 0, 1) := by decide +kernel
theorem dX4_init_100 : decode cX4_init 100 = .ok (.getfield 30, 3) := by decide +kernel
theorem dX4_init_103 : decode cX4_init 103 = .ok (.iload_n 1, 1) := by decide +kernel
theorem dX4_init_104 : decode cX4_init 104 = .ok (.new 16, 3) := by decide +kernel
theorem dX4_init_107 : decode cX4_init 107 = .ok (.dup, 1) := by decide +kernel
theorem dX4_init_108 : decode cX4_init 108 = .ok (.invokespecial 18, 3) := by decide +kernel
theorem dX4_init_111 : decode cX4_init 111 = .ok (.aastore, 1) := by decide +kernel
theorem dX4_init_112 : decode cX4_init 112 = .ok (.iinc 1 1, 3) := by decide +kernel
theorem dX4_init_115 : decode cX4_init 115 = .ok (.goto (-22), 3) := by decide +kernel
theorem dX4_init_118 : decode cX4_init 118 = .ok (.iconst 0, 1) := by decide +kernel
theorem dX4_init_119 : decode cX4_init 119 = .ok (.istore_n 1, 1) := by decide +kernel
theorem dX4_init_120 : decode cX4_init 120 = .ok (.iload_n 1, 1) := by decide +kernel
theorem dX4_init_121 : decode cX4_init 121 = .ok (.iconst 2, 1) := by decide +kernel
theorem dX4_init_122 : decode cX4_init 122 = .ok (.if_icmp .ge 22, 3) := by decide +kernel
theorem dX4_init_125 : decode cX4_init 125 = .ok (.aload_n 0, 1) := by decide +kernel
theorem dX4_init_126 : decode cX4_init 126 = .ok (.getfield 34, 3) := by decide +kernel
theorem dX4_init_129 : decode cX4_init 129 = .ok (.iload_n 1, 1) := by decide +kernel
theorem dX4_init_130 : decode cX4_init 130 = .ok (.new 16, 3) := by decide +kernel
theorem dX4_init_133 : decode cX4_init 133 = .ok (.dup, 1) := by decide +kernel
theorem dX4_init_134 : decode cX4_init 134 = .ok (.invokespecial 18, 3) := by decide +kernel
theorem dX4_init_137 : decode cX4_init 137 = .ok (.aastore, 1) := by decide +kernel
theorem dX4_init_138 : decode cX4_init 138 = .ok (.iinc 1 1, 3) := by decide +kernel
theorem dX4_init_141 : decode cX4_init 141 = .ok (.goto (-21), 3) := by decide +kernel
theorem dX4_init_144 : decode cX4_init 144 = .ok (.return_, 1) := by decide +kernel
theorem dX4_feed_0 : decode cX4_feed 0 = .ok (.aload_n 0, 1) := by decide +kernel
theorem dX4_feed_1 : decode cX4_feed 1 = .ok (.getfield 41, 3) := by decide +kernel
theorem dX4_feed_4 : decode cX4_feed 4 = .ok (.bipush 20, 2) := by decide +kernel
theorem dX4_feed_6 : decode cX4_feed 6 = .ok (.iadd, 1) := by decide +kernel
theorem dX4_feed_7 : decode cX4_feed 7 = .ok (.sipush 600, 3) := by decide +kernel
theorem dX4_feed_10 : decode cX4_feed 10 = .ok (.if_icmp .le 5, 3) := by decide +kernel
theorem dX4_feed_13 : decode cX4_feed 13 = .ok (.iconst (-1), 1) := by decide +kernel
theorem dX4_feed_14 : decode cX4_feed 14 = .ok (.ireturn, 1) := by decide +kernel
theorem dX4_feed_15 : decode cX4_feed 15 = .ok (.aload_n 0, 1) := by decide +kernel
theorem dX4_feed_16 : decode cX4_feed 16 = .ok (.iload_n 1, 1) := by decide +kernel
theorem dX4_feed_17 : decode cX4_feed 17 = .ok (.invokevirtual 60, 3) := by decide +kernel
theorem dX4_feed_20 : decode cX4_feed 20 = .ok (.aload_n 0, 1) := by decide +kernel
theorem dX4_feed_21 : decode cX4_feed 21 = .ok (.iload_n 2, 1) := by decide +kernel
theorem dX4_feed_22 : decode cX4_feed 22 = .ok (.invokevirtual 60, 3) := by decide +kernel
theorem dX4_feed_25 : decode cX4_feed 25 = .ok (.aload_n 0, 1) := by decide +kernel
theorem dX4_feed_26 : decode cX4_feed 26 = .ok (.iload_n 3, 1) := by decide +kernel
theorem dX4_feed_27 : decode cX4_feed 27 = .ok (.invokevirtual 60, 3) := by decide +kernel
theorem dX4_feed_30 : decode cX4_feed 30 = .ok (.aload_n 0, 1) := by decide +kernel
theorem dX4_feed_31 : decode cX4_feed 31 = .ok (.iload 4, 2) := by decide +kernel
theorem dX4_feed_33 : decode cX4_feed 33 = .ok (.invokevirtual 60, 3) := by decide +kernel
theorem dX4_feed_36 : decode cX4_feed 36 = .ok (.aload_n 0, 1) := by decide +kernel
theorem dX4_feed_37 : decode cX4_feed 37 = .ok (.iload 5, 2) := by decide +kernel
theorem dX4_feed_39 : decode cX4_feed 39 = .ok (.invokevirtual 60, 3) := by decide +kernel
theorem dX4_feed_42 : decode cX4_feed 42 = .ok (.aload_n 0, 1) := by decide +kernel
theorem dX4_feed_43 : decode cX4_feed 43 = .ok (.getfield 41, 3) := by decide +kernel
theorem dX4_feed_46 : decode cX4_feed 46 = .ok (.ireturn, 1) := by decide +kernel
theorem dX4_text_0 : decode cX4_text 0 = .ok (.iload_n 1, 1) := by decide +kernel
theorem dX4_text_1 : decode cX4_text 1 = .ok (.iconst 0, 1) := by decide +kernel
theorem dX4_text_2 : decode cX4_text 2 = .ok (.aload_n 0, 1) := by decide +kernel
theorem dX4_text_3 : decode cX4_text 3 = .ok (.getfield 41, 3) := by decide +kernel
theorem dX4_text_6 : decode cX4_text 6 = .ok (.invokestatic 64, 3) := by decide +kernel
theorem dX4_text_9 : decode cX4_text 9 = .ok (.ifCond .ne 9, 3) := by decide +kernel
theorem dX4_text_12 : decode cX4_text 12 = .ok (.aload_n 0, 1) := by decide +kernel
theorem dX4_text_13 : decode cX4_text 13 = .ok (.iconst 2, 1) := by decide +kernel
theorem dX4_text_14 : decode cX4_text 14 = .ok (.invokevirtual 68, 3) := by decide +kernel
theorem dX4_text_17 : decode cX4_text 17 = .ok (.ireturn, 1) := by decide +kernel
theorem dX4_text_18 : decode cX4_text 18 = .ok (.aload_n 0, 1) := by decide +kernel
theorem dX4_text_19 : decode cX4_text 19 = .ok (.iconst 0, 1) := by decide +kernel
theorem dX4_text_20 : decode cX4_text 20 = .ok (.putfield 41, 3) := by decide +kernel
theorem dX4_text_23 : decode cX4_text 23 = .ok (.aload_n 0, 1) := by decide +kernel
theorem dX4_text_24 : decode cX4_text 24 = .ok (.aload_n 0, 1) := by decide +kernel
theorem dX4_text_25 : decode cX4_text 25 = .ok (.getfield 10, 3) := by decide +kernel
theorem dX4_text_28 : decode cX4_text 28 = .ok (.iload_n 1, 1) := by decide +kernel
theorem dX4_text_29 : decode cX4_text 29 = .ok (.invokevirtual 72, 3) := by decide +kernel
theorem dX4_text_32 : decode cX4_text 32 = .ok (.putfield 57, 3) := by decide +kernel
theorem dX4_text_35 : decode cX4_text 35 = .ok (.aload_n 0, 1) := by decide +kernel
theorem dX4_text_36 : decode cX4_text 36 = .ok (.getfield 57, 3) := by decide +kernel
theorem dX4_text_39 : decode cX4_text 39 = .ok (.ifCond .eq 21, 3) := by decide +kernel
theorem dX4_text_42 : decode cX4_text 42 = .ok (.aload_n 0, 1) := by decide +kernel
theorem dX4_text_43 : decode cX4_text 43 = .ok (.iconst 4, 1) := by decide +kernel
theorem dX4_text_44 : decode cX4_text 44 = .ok (.putfield 51, 3) := by decide +kernel
theorem dX4_text_47 : decode cX4_text 47 = .ok (.aload_n 0, 1) := by decide +kernel
theorem dX4_text_48 : decode cX4_text 48 = .ok (.aload_n 0, 1) := by decide +kernel
theorem dX4_text_49 : decode cX4_text 49 = .ok (.getfield 10, 3) := by decide +kernel
theorem dX4_text_52 : decode cX4_text 52 = .ok (.getfield 75, 3) := by decide +kernel
theorem dX4_text_55 : decode cX4_text 55 = .ok (.putfield 54, 3) := by decide +kernel
theorem dX4_text_58 : decode cX4_text 58 = .ok (.iconst (-1), 1) := by decide +kernel
theorem dX4_text_59 : decode cX4_text 59 = .ok (.ireturn, 1) := by decide +kernel
theorem dX4_text_60 : decode cX4_text 60 = .ok (.aload_n 0, 1) := by decide +kernel
theorem dX4_text_61 : decode cX4_text 61 = .ok (.invokevirtual 78, 3) := by decide +kernel
theorem dX4_text_64 : decode cX4_text 64 = .ok (.aload_n 0, 1) := by decide +kernel
theorem dX4_text_65 : decode cX4_text 65 = .ok (.getfield 19, 3) := by decide +kernel
theorem dX4_text_68 : decode cX4_text 68 = .ok (.aload_n 0, 1) := by decide +kernel
theorem dX4_text_69 : decode cX4_text 69 = .ok (.getfield 10, 3) := by decide +kernel
theorem dX4_text_72 : decode cX4_text 72 = .ok (.getfield 81, 3) := by decide +kernel
theorem dX4_text_75 : decode cX4_text 75 = .ok (.invokevirtual 84, 3) := by decide +kernel
theorem dX4_text_78 : decode cX4_text 78 = .ok (.aload_n 0, 1) := by decide +kernel
theorem dX4_text_79 : decode cX4_text 79 = .ok (.invokevirtual 88, 3) := by decide +kernel
theorem dX4_text_82 : decode cX4_text 82 = .ok (.iconst 0, 1) := by decide +kernel
theorem dX4_text_83 : decode cX4_text 83 = .ok (.istore_n 2, 1) := by decide +kernel
theorem dX4_text_84 : decode cX4_text 84 = .ok (.iload_n 2, 1) := by decide +kernel
theorem dX4_text_85 : decode cX4_text 85 = .ok (.iconst 2, 1) := by decide +kernel
theorem dX4_text_86 : decode cX4_text 86 = .ok (.if_icmp .ge 16, 3) := by decide +kernel
theorem dX4_text_89 : decode cX4_text 89 = .ok (.aload_n 0, 1) := by decide +kernel
theorem dX4_text_90 : decode cX4_text 90 = .ok (.getfield 37, 3) := by decide +kernel
theorem dX4_text_93 : decode cX4_text 93 = .ok (.iload_n 2, 1) := by decide +kernel
theorem dX4_text_94 : decode cX4_text 94 = .ok (.iconst 0, 1) := by decide +kernel
theorem dX4_text_95 : decode cX4_text 95 = .ok (.bastore, 1) := by decide +kernel
theorem dX4_text_96 : decode cX4_text 96 = .ok (.iinc 2 1, 3) := by decide +kernel
theorem dX4_text_99 : decode cX4_text 99 = .ok (.goto (-15), 3) := by decide +kernel
theorem dX4_text_102 : decode cX4_text 102 = .ok (.aload_n 0, 1) := by decide +kernel
theorem dX4_text_103 : decode cX4_text 103 = .ok (.getfield 19, 3) := by decide +kernel
theorem dX4_text_106 : decode cX4_text 106 = .ok (.getfield 91, 3) := by decide +kernel
theorem dX4_text_109 : decode cX4_text 109 = .ok (.ireturn, 1) := by decide +kernel
theorem dX4_fault_0 : decode cX4_fault 0 = .ok (.aload_n 0, 1) := by decide +kernel
theorem dX4_fault_1 : decode cX4_fault 1 = .ok (.getfield 57, 3) := by decide +kernel
theorem dX4_fault_4 : decode cX4_fault 4 = .ok (.ireturn, 1) := by decide +kernel
theorem dX4_where_0 : decode cX4_where 0 = .ok (.aload_n 0, 1) := by decide +kernel
theorem dX4_where_1 : decode cX4_where 1 = .ok (.getfield 54, 3) := by decide +kernel
theorem dX4_where_4 : decode cX4_where 4 = .ok (.ireturn, 1) := by decide +kernel
theorem dX4_about_0 : decode cX4_about 0 = .ok (.aload_n 0, 1) := by decide +kernel
theorem dX4_about_1 : decode cX4_about 1 = .ok (.invokevirtual 94, 3) := by decide +kernel
theorem dX4_about_4 : decode cX4_about 4 = .ok (.ifCond .eq 13, 3) := by decide +kernel
theorem dX4_about_7 : decode cX4_about 7 = .ok (.iload_n 1, 1) := by decide +kernel
theorem dX4_about_8 : decode cX4_about 8 = .ok (.iconst 0, 1) := by decide +kernel
theorem dX4_about_9 : decode cX4_about 9 = .ok (.bipush 10, 2) := by decide +kernel
theorem dX4_about_11 : decode cX4_about 11 = .ok (.invokestatic 64, 3) := by decide +kernel
theorem dX4_about_14 : decode cX4_about 14 = .ok (.ifCond .ne 9, 3) := by decide +kernel
theorem dX4_about_17 : decode cX4_about 17 = .ok (.aload_n 0, 1) := by decide +kernel
theorem dX4_about_18 : decode cX4_about 18 = .ok (.iconst 1, 1) := by decide +kernel
theorem dX4_about_19 : decode cX4_about 19 = .ok (.invokevirtual 68, 3) := by decide +kernel
theorem dX4_about_22 : decode cX4_about 22 = .ok (.ireturn, 1) := by decide +kernel
theorem dX4_about_23 : decode cX4_about 23 = .ok (.aload_n 0, 1) := by decide +kernel
theorem dX4_about_24 : decode cX4_about 24 = .ok (.invokevirtual 78, 3) := by decide +kernel
theorem dX4_about_27 : decode cX4_about 27 = .ok (.iload_n 1, 1) := by decide +kernel
theorem dX4_about_28 : decode cX4_about 28 = .ok (.ifCond .ne 11, 3) := by decide +kernel
theorem dX4_about_31 : decode cX4_about 31 = .ok (.aload_n 0, 1) := by decide +kernel
theorem dX4_about_32 : decode cX4_about 32 = .ok (.getfield 19, 3) := by decide +kernel
theorem dX4_about_35 : decode cX4_about 35 = .ok (.getfield 91, 3) := by decide +kernel
theorem dX4_about_38 : decode cX4_about 38 = .ok (.ireturn, 1) := by decide +kernel
theorem dX4_about_39 : decode cX4_about 39 = .ok (.iload_n 1, 1) := by decide +kernel
theorem dX4_about_40 : decode cX4_about 40 = .ok (.iconst 1, 1) := by decide +kernel
theorem dX4_about_41 : decode cX4_about 41 = .ok (.if_icmp .ne 11, 3) := by decide +kernel
theorem dX4_about_44 : decode cX4_about 44 = .ok (.aload_n 0, 1) := by decide +kernel
theorem dX4_about_45 : decode cX4_about 45 = .ok (.getfield 19, 3) := by decide +kernel
theorem dX4_about_48 : decode cX4_about 48 = .ok (.getfield 98, 3) := by decide +kernel
theorem dX4_about_51 : decode cX4_about 51 = .ok (.ireturn, 1) := by decide +kernel
theorem dX4_about_52 : decode cX4_about 52 = .ok (.iload_n 1, 1) := by decide +kernel
theorem dX4_about_53 : decode cX4_about 53 = .ok (.bipush 10, 2) := by decide +kernel
theorem dX4_about_55 : decode cX4_about 55 = .ok (.if_icmp .ne 10, 3) := by decide +kernel
theorem dX4_about_58 : decode cX4_about 58 = .ok (.aload_n 0, 1) := by decide +kernel
theorem dX4_about_59 : decode cX4_about 59 = .ok (.getfield 45, 3) := by decide +kernel
theorem dX4_about_62 : decode cX4_about 62 = .ok (.goto 12, 3) := by decide +kernel
theorem dX4_about_65 : decode cX4_about 65 = .ok (.aload_n 0, 1) := by decide +kernel
theorem dX4_about_66 : decode cX4_about 66 = .ok (.getfield 19, 3) := by decide +kernel
theorem dX4_about_69 : decode cX4_about 69 = .ok (.getfield 101, 3) := by decide +kernel
theorem dX4_about_72 : decode cX4_about 72 = .ok (.iload_n 1, 1) := by decide +kernel
theorem dX4_about_73 : decode cX4_about 73 = .ok (.iaload, 1) := by decide +kernel
theorem dX4_about_74 : decode cX4_about 74 = .ok (.ireturn, 1) := by decide +kernel
theorem dX4_ship_0 : decode cX4_ship 0 = .ok (.aload_n 0, 1) := by decide +kernel
theorem dX4_ship_1 : decode cX4_ship 1 = .ok (.iload_n 1, 1) := by decide +kernel
theorem dX4_ship_2 : decode cX4_ship 2 = .ok (.invokevirtual 105, 3) := by decide +kernel
theorem dX4_ship_5 : decode cX4_ship 5 = .ok (.ifCond .eq 13, 3) := by decide +kernel
theorem dX4_ship_8 : decode cX4_ship 8 = .ok (.iload_n 2, 1) := by decide +kernel
theorem dX4_ship_9 : decode cX4_ship 9 = .ok (.iconst 0, 1) := by decide +kernel
theorem dX4_ship_10 : decode cX4_ship 10 = .ok (.bipush 6, 2) := by decide +kernel
theorem dX4_ship_12 : decode cX4_ship 12 = .ok (.invokestatic 64, 3) := by decide +kernel
theorem dX4_ship_15 : decode cX4_ship 15 = .ok (.ifCond .ne 9, 3) := by decide +kernel
theorem dX4_ship_18 : decode cX4_ship 18 = .ok (.aload_n 0, 1) := by decide +kernel
theorem dX4_ship_19 : decode cX4_ship 19 = .ok (.iconst 1, 1) := by decide +kernel
theorem dX4_ship_20 : decode cX4_ship 20 = .ok (.invokevirtual 68, 3) := by decide +kernel
theorem dX4_ship_23 : decode cX4_ship 23 = .ok (.ireturn, 1) := by decide +kernel
theorem dX4_ship_24 : decode cX4_ship 24 = .ok (.aload_n 0, 1) := by decide +kernel
theorem dX4_ship_25 : decode cX4_ship 25 = .ok (.invokevirtual 78, 3) := by decide +kernel
theorem dX4_ship_28 : decode cX4_ship 28 = .ok (.iload_n 2, 1) := by decide +kernel
theorem dX4_ship_29 : decode cX4_ship 29 = .ok (.bipush 6, 2) := by decide +kernel
theorem dX4_ship_31 : decode cX4_ship 31 = .ok (.if_icmp .ne 14, 3) := by decide +kernel
theorem dX4_ship_34 : decode cX4_ship 34 = .ok (.aload_n 0, 1) := by decide +kernel
theorem dX4_ship_35 : decode cX4_ship 35 = .ok (.getfield 19, 3) := by decide +kernel
theorem dX4_ship_38 : decode cX4_ship 38 = .ok (.iload_n 1, 1) := by decide +kernel
theorem dX4_ship_39 : decode cX4_ship 39 = .ok (.invokevirtual 109, 3) := by decide +kernel
theorem dX4_ship_42 : decode cX4_ship 42 = .ok (.goto 12, 3) := by decide +kernel
theorem dX4_ship_45 : decode cX4_ship 45 = .ok (.aload_n 0, 1) := by decide +kernel
theorem dX4_ship_46 : decode cX4_ship 46 = .ok (.getfield 19, 3) := by decide +kernel
theorem dX4_ship_49 : decode cX4_ship 49 = .ok (.iload_n 1, 1) := by decide +kernel
theorem dX4_ship_50 : decode cX4_ship 50 = .ok (.iload_n 2, 1) := by decide +kernel
theorem dX4_ship_51 : decode cX4_ship 51 = .ok (.invokevirtual 112, 3) := by decide +kernel
theorem dX4_ship_54 : decode cX4_ship 54 = .ok (.ireturn, 1) := by decide +kernel
theorem dX4_claim_0 : decode cX4_claim 0 = .ok (.aload_n 0, 1) := by decide +kernel
theorem dX4_claim_1 : decode cX4_claim 1 = .ok (.iload_n 1, 1) := by decide +kernel
theorem dX4_claim_2 : decode cX4_claim 2 = .ok (.invokevirtual 116, 3) := by decide +kernel
theorem dX4_claim_5 : decode cX4_claim 5 = .ok (.ifCond .eq 12, 3) := by decide +kernel
theorem dX4_claim_8 : decode cX4_claim 8 = .ok (.iload_n 2, 1) := by decide +kernel
theorem dX4_claim_9 : decode cX4_claim 9 = .ok (.iconst 0, 1) := by decide +kernel
theorem dX4_claim_10 : decode cX4_claim 10 = .ok (.iconst 4, 1) := by decide +kernel
theorem dX4_claim_11 : decode cX4_claim 11 = .ok (.invokestatic 64, 3) := by decide +kernel
theorem dX4_claim_14 : decode cX4_claim 14 = .ok (.ifCond .ne 9, 3) := by decide +kernel
theorem dX4_claim_17 : decode cX4_claim 17 = .ok (.aload_n 0, 1) := by decide +kernel
theorem dX4_claim_18 : decode cX4_claim 18 = .ok (.iconst 1, 1) := by decide +kernel
theorem dX4_claim_19 : decode cX4_claim 19 = .ok (.invokevirtual 68, 3) := by decide +kernel
theorem dX4_claim_22 : decode cX4_claim 22 = .ok (.ireturn, 1) := by decide +kernel
theorem dX4_claim_23 : decode cX4_claim 23 = .ok (.aload_n 0, 1) := by decide +kernel
theorem dX4_claim_24 : decode cX4_claim 24 = .ok (.invokevirtual 78, 3) := by decide +kernel
theorem dX4_claim_27 : decode cX4_claim 27 = .ok (.iload_n 2, 1) := by decide +kernel
theorem dX4_claim_28 : decode cX4_claim 28 = .ok (.iconst 4, 1) := by decide +kernel
theorem dX4_claim_29 : decode cX4_claim 29 = .ok (.if_icmp .ne 14, 3) := by decide +kernel
theorem dX4_claim_32 : decode cX4_claim 32 = .ok (.aload_n 0, 1) := by decide +kernel
theorem dX4_claim_33 : decode cX4_claim 33 = .ok (.getfield 19, 3) := by decide +kernel
theorem dX4_claim_36 : decode cX4_claim 36 = .ok (.iload_n 1, 1) := by decide +kernel
theorem dX4_claim_37 : decode cX4_claim 37 = .ok (.invokevirtual 119, 3) := by decide +kernel
theorem dX4_claim_40 : decode cX4_claim 40 = .ok (.goto 12, 3) := by decide +kernel
theorem dX4_claim_43 : decode cX4_claim 43 = .ok (.aload_n 0, 1) := by decide +kernel
theorem dX4_claim_44 : decode cX4_claim 44 = .ok (.getfield 19, 3) := by decide +kernel
theorem dX4_claim_47 : decode cX4_claim 47 = .ok (.iload_n 1, 1) := by decide +kernel
theorem dX4_claim_48 : decode cX4_claim 48 = .ok (.iload_n 2, 1) := by decide +kernel
theorem dX4_claim_49 : decode cX4_claim 49 = .ok (.invokevirtual 122, 3) := by decide +kernel
theorem dX4_claim_52 : decode cX4_claim 52 = .ok (.ireturn, 1) := by decide +kernel
theorem dX4_part_0 : decode cX4_part 0 = .ok (.aload_n 0, 1) := by decide +kernel
theorem dX4_part_1 : decode cX4_part 1 = .ok (.iload_n 1, 1) := by decide +kernel
theorem dX4_part_2 : decode cX4_part 2 = .ok (.invokevirtual 105, 3) := by decide +kernel
theorem dX4_part_5 : decode cX4_part 5 = .ok (.ifCond .ne 9, 3) := by decide +kernel
theorem dX4_part_8 : decode cX4_part 8 = .ok (.aload_n 0, 1) := by decide +kernel
theorem dX4_part_9 : decode cX4_part 9 = .ok (.iconst 1, 1) := by decide +kernel
theorem dX4_part_10 : decode cX4_part 10 = .ok (.invokevirtual 68, 3) := by decide +kernel
theorem dX4_part_13 : decode cX4_part 13 = .ok (.ireturn, 1) := by decide +kernel
theorem dX4_part_14 : decode cX4_part 14 = .ok (.iload_n 2, 1) := by decide +kernel
theorem dX4_part_15 : decode cX4_part 15 = .ok (.iconst 0, 1) := by decide +kernel
theorem dX4_part_16 : decode cX4_part 16 = .ok (.ldc 125, 2) := by decide +kernel
theorem dX4_part_18 : decode cX4_part 18 = .ok (.invokestatic 64, 3) := by decide +kernel
theorem dX4_part_21 : decode cX4_part 21 = .ok (.ifCond .ne 9, 3) := by decide +kernel
theorem dX4_part_24 : decode cX4_part 24 = .ok (.aload_n 0, 1) := by decide +kernel
theorem dX4_part_25 : decode cX4_part 25 = .ok (.iconst 2, 1) := by decide +kernel
theorem dX4_part_26 : decode cX4_part 26 = .ok (.invokevirtual 68, 3) := by decide +kernel
theorem dX4_part_29 : decode cX4_part 29 = .ok (.ireturn, 1) := by decide +kernel
theorem dX4_part_30 : decode cX4_part 30 = .ok (.aload_n 0, 1) := by decide +kernel
theorem dX4_part_31 : decode cX4_part 31 = .ok (.invokevirtual 78, 3) := by decide +kernel
theorem dX4_part_34 : decode cX4_part 34 = .ok (.aload_n 0, 1) := by decide +kernel
theorem dX4_part_35 : decode cX4_part 35 = .ok (.invokevirtual 126, 3) := by decide +kernel
theorem dX4_part_38 : decode cX4_part 38 = .ok (.aload_n 0, 1) := by decide +kernel
theorem dX4_part_39 : decode cX4_part 39 = .ok (.getfield 26, 3) := by decide +kernel
theorem dX4_part_42 : decode cX4_part 42 = .ok (.iload_n 1, 1) := by decide +kernel
theorem dX4_part_43 : decode cX4_part 43 = .ok (.iload_n 2, 1) := by decide +kernel
theorem dX4_part_44 : decode cX4_part 44 = .ok (.i2l, 1) := by decide +kernel
theorem dX4_part_45 : decode cX4_part 45 = .ok (.invokevirtual 129, 3) := by decide +kernel
theorem dX4_part_48 : decode cX4_part 48 = .ok (.l2i, 1) := by decide +kernel
theorem dX4_part_49 : decode cX4_part 49 = .ok (.ireturn, 1) := by decide +kernel
theorem dX4_owes_0 : decode cX4_owes 0 = .ok (.aload_n 0, 1) := by decide +kernel
theorem dX4_owes_1 : decode cX4_owes 1 = .ok (.iload_n 1, 1) := by decide +kernel
theorem dX4_owes_2 : decode cX4_owes 2 = .ok (.invokevirtual 105, 3) := by decide +kernel
theorem dX4_owes_5 : decode cX4_owes 5 = .ok (.ifCond .eq 11, 3) := by decide +kernel
theorem dX4_owes_8 : decode cX4_owes 8 = .ok (.aload_n 0, 1) := by decide +kernel
theorem dX4_owes_9 : decode cX4_owes 9 = .ok (.iload_n 2, 1) := by decide +kernel
theorem dX4_owes_10 : decode cX4_owes 10 = .ok (.invokevirtual 116, 3) := by decide +kernel
theorem dX4_owes_13 : decode cX4_owes 13 = .ok (.ifCond .ne 9, 3) := by decide +kernel
theorem dX4_owes_16 : decode cX4_owes 16 = .ok (.aload_n 0, 1) := by decide +kernel
theorem dX4_owes_17 : decode cX4_owes 17 = .ok (.iconst 1, 1) := by decide +kernel
theorem dX4_owes_18 : decode cX4_owes 18 = .ok (.invokevirtual 68, 3) := by decide +kernel
theorem dX4_owes_21 : decode cX4_owes 21 = .ok (.ireturn, 1) := by decide +kernel
theorem dX4_owes_22 : decode cX4_owes 22 = .ok (.aload_n 0, 1) := by decide +kernel
theorem dX4_owes_23 : decode cX4_owes 23 = .ok (.invokevirtual 78, 3) := by decide +kernel
theorem dX4_owes_26 : decode cX4_owes 26 = .ok (.aload_n 0, 1) := by decide +kernel
theorem dX4_owes_27 : decode cX4_owes 27 = .ok (.invokevirtual 126, 3) := by decide +kernel
theorem dX4_owes_30 : decode cX4_owes 30 = .ok (.aload_n 0, 1) := by decide +kernel
theorem dX4_owes_31 : decode cX4_owes 31 = .ok (.getfield 26, 3) := by decide +kernel
theorem dX4_owes_34 : decode cX4_owes 34 = .ok (.iload_n 1, 1) := by decide +kernel
theorem dX4_owes_35 : decode cX4_owes 35 = .ok (.iload_n 2, 1) := by decide +kernel
theorem dX4_owes_36 : decode cX4_owes 36 = .ok (.invokevirtual 133, 3) := by decide +kernel
theorem dX4_owes_39 : decode cX4_owes 39 = .ok (.l2i, 1) := by decide +kernel
theorem dX4_owes_40 : decode cX4_owes 40 = .ok (.ireturn, 1) := by decide +kernel
theorem dX4_between_0 : decode cX4_between 0 = .ok (.aload_n 0, 1) := by decide +kernel
theorem dX4_between_1 : decode cX4_between 1 = .ok (.iload_n 1, 1) := by decide +kernel
theorem dX4_between_2 : decode cX4_between 2 = .ok (.invokevirtual 105, 3) := by decide +kernel
theorem dX4_between_5 : decode cX4_between 5 = .ok (.ifCond .eq 20, 3) := by decide +kernel
theorem dX4_between_8 : decode cX4_between 8 = .ok (.aload_n 0, 1) := by decide +kernel
theorem dX4_between_9 : decode cX4_between 9 = .ok (.iload_n 2, 1) := by decide +kernel
theorem dX4_between_10 : decode cX4_between 10 = .ok (.invokevirtual 105, 3) := by decide +kernel
theorem dX4_between_13 : decode cX4_between 13 = .ok (.ifCond .eq 12, 3) := by decide +kernel
theorem dX4_between_16 : decode cX4_between 16 = .ok (.iload_n 3, 1) := by decide +kernel
theorem dX4_between_17 : decode cX4_between 17 = .ok (.iconst 0, 1) := by decide +kernel
theorem dX4_between_18 : decode cX4_between 18 = .ok (.iconst 3, 1) := by decide +kernel
theorem dX4_between_19 : decode cX4_between 19 = .ok (.invokestatic 64, 3) := by decide +kernel
theorem dX4_between_22 : decode cX4_between 22 = .ok (.ifCond .ne 10, 3) := by decide +kernel
theorem dX4_between_25 : decode cX4_between 25 = .ok (.aload_n 0, 1) := by decide +kernel
theorem dX4_between_26 : decode cX4_between 26 = .ok (.iconst 1, 1) := by decide +kernel
theorem dX4_between_27 : decode cX4_between 27 = .ok (.invokevirtual 68, 3) := by decide +kernel
theorem dX4_between_30 : decode cX4_between 30 = .ok (.i2l, 1) := by decide +kernel
theorem dX4_between_31 : decode cX4_between 31 = .ok (.lreturn, 1) := by decide +kernel
theorem dX4_between_32 : decode cX4_between 32 = .ok (.iload_n 1, 1) := by decide +kernel
theorem dX4_between_33 : decode cX4_between 33 = .ok (.iload_n 2, 1) := by decide +kernel
theorem dX4_between_34 : decode cX4_between 34 = .ok (.if_icmp .ne 10, 3) := by decide +kernel
theorem dX4_between_37 : decode cX4_between 37 = .ok (.aload_n 0, 1) := by decide +kernel
theorem dX4_between_38 : decode cX4_between 38 = .ok (.iconst 5, 1) := by decide +kernel
theorem dX4_between_39 : decode cX4_between 39 = .ok (.invokevirtual 68, 3) := by decide +kernel
theorem dX4_between_42 : decode cX4_between 42 = .ok (.i2l, 1) := by decide +kernel
theorem dX4_between_43 : decode cX4_between 43 = .ok (.lreturn, 1) := by decide +kernel
theorem dX4_between_44 : decode cX4_between 44 = .ok (.aload_n 0, 1) := by decide +kernel
theorem dX4_between_45 : decode cX4_between 45 = .ok (.invokevirtual 78, 3) := by decide +kernel
theorem dX4_between_48 : decode cX4_between 48 = .ok (.aload_n 0, 1) := by decide +kernel
theorem dX4_between_49 : decode cX4_between 49 = .ok (.invokevirtual 126, 3) := by decide +kernel
theorem dX4_between_52 : decode cX4_between 52 = .ok (.iload_n 3, 1) := by decide +kernel
theorem dX4_between_53 : decode cX4_between 53 = .ok (.ifCond .ne 13, 3) := by decide +kernel
theorem dX4_between_56 : decode cX4_between 56 = .ok (.aload_n 0, 1) := by decide +kernel
theorem dX4_between_57 : decode cX4_between 57 = .ok (.getfield 26, 3) := by decide +kernel
theorem dX4_between_60 : decode cX4_between 60 = .ok (.iload_n 1, 1) := by decide +kernel
theorem dX4_between_61 : decode cX4_between 61 = .ok (.iload_n 2, 1) := by decide +kernel
theorem dX4_between_62 : decode cX4_between 62 = .ok (.invokevirtual 137, 3) := by decide +kernel
theorem dX4_between_65 : decode cX4_between 65 = .ok (.lreturn, 1) := by decide +kernel
theorem dX4_between_66 : decode cX4_between 66 = .ok (.iload_n 3, 1) := by decide +kernel
theorem dX4_between_67 : decode cX4_between 67 = .ok (.iconst 1, 1) := by decide +kernel
theorem dX4_between_68 : decode cX4_between 68 = .ok (.if_icmp .ne 13, 3) := by decide +kernel
theorem dX4_between_71 : decode cX4_between 71 = .ok (.aload_n 0, 1) := by decide +kernel
theorem dX4_between_72 : decode cX4_between 72 = .ok (.getfield 26, 3) := by decide +kernel
theorem dX4_between_75 : decode cX4_between 75 = .ok (.iload_n 1, 1) := by decide +kernel
theorem dX4_between_76 : decode cX4_between 76 = .ok (.iload_n 2, 1) := by decide +kernel
theorem dX4_between_77 : decode cX4_between 77 = .ok (.invokevirtual 140, 3) := by decide +kernel
theorem dX4_between_80 : decode cX4_between 80 = .ok (.lreturn, 1) := by decide +kernel
theorem dX4_between_81 : decode cX4_between 81 = .ok (.iload_n 3, 1) := by decide +kernel
theorem dX4_between_82 : decode cX4_between 82 = .ok (.iconst 2, 1) := by decide +kernel
theorem dX4_between_83 : decode cX4_between 83 = .ok (.if_icmp .ne 15, 3) := by decide +kernel
theorem dX4_between_86 : decode cX4_between 86 = .ok (.aload_n 0, 1) := by decide +kernel
theorem dX4_between_87 : decode cX4_between 87 = .ok (.getfield 26, 3) := by decide +kernel
theorem dX4_between_90 : decode cX4_between 90 = .ok (.iload_n 1, 1) := by decide +kernel
theorem dX4_between_91 : decode cX4_between 91 = .ok (.iload_n 2, 1) := by decide +kernel
theorem dX4_between_92 : decode cX4_between 92 = .ok (.invokevirtual 143, 3) := by decide +kernel
theorem dX4_between_95 : decode cX4_between 95 = .ok (.goto 12, 3) := by decide +kernel
theorem dX4_between_98 : decode cX4_between 98 = .ok (.aload_n 0, 1) := by decide +kernel
theorem dX4_between_99 : decode cX4_between 99 = .ok (.getfield 26, 3) := by decide +kernel
theorem dX4_between_102 : decode cX4_between 102 = .ok (.iload_n 1, 1) := by decide +kernel
theorem dX4_between_103 : decode cX4_between 103 = .ok (.iload_n 2, 1) := by decide +kernel
theorem dX4_between_104 : decode cX4_between 104 = .ok (.invokevirtual 146, 3) := by decide +kernel
theorem dX4_between_107 : decode cX4_between 107 = .ok (.lreturn, 1) := by decide +kernel
theorem dX4_back_0 : decode cX4_back 0 = .ok (.aload_n 0, 1) := by decide +kernel
theorem dX4_back_1 : decode cX4_back 1 = .ok (.iload_n 1, 1) := by decide +kernel
theorem dX4_back_2 : decode cX4_back 2 = .ok (.invokevirtual 116, 3) := by decide +kernel
theorem dX4_back_5 : decode cX4_back 5 = .ok (.ifCond .ne 10, 3) := by decide +kernel
theorem dX4_back_8 : decode cX4_back 8 = .ok (.aload_n 0, 1) := by decide +kernel
theorem dX4_back_9 : decode cX4_back 9 = .ok (.iconst 1, 1) := by decide +kernel
theorem dX4_back_10 : decode cX4_back 10 = .ok (.invokevirtual 68, 3) := by decide +kernel
theorem dX4_back_13 : decode cX4_back 13 = .ok (.i2l, 1) := by decide +kernel
theorem dX4_back_14 : decode cX4_back 14 = .ok (.lreturn, 1) := by decide +kernel
theorem dX4_back_15 : decode cX4_back 15 = .ok (.aload_n 0, 1) := by decide +kernel
theorem dX4_back_16 : decode cX4_back 16 = .ok (.invokevirtual 78, 3) := by decide +kernel
theorem dX4_back_19 : decode cX4_back 19 = .ok (.aload_n 0, 1) := by decide +kernel
theorem dX4_back_20 : decode cX4_back 20 = .ok (.invokevirtual 126, 3) := by decide +kernel
theorem dX4_back_23 : decode cX4_back 23 = .ok (.aload_n 0, 1) := by decide +kernel
theorem dX4_back_24 : decode cX4_back 24 = .ok (.getfield 26, 3) := by decide +kernel
theorem dX4_back_27 : decode cX4_back 27 = .ok (.iload_n 1, 1) := by decide +kernel
theorem dX4_back_28 : decode cX4_back 28 = .ok (.invokevirtual 149, 3) := by decide +kernel
theorem dX4_back_31 : decode cX4_back 31 = .ok (.lreturn, 1) := by decide +kernel
theorem dX4_fund_0 : decode cX4_fund 0 = .ok (.aload_n 0, 1) := by decide +kernel
theorem dX4_fund_1 : decode cX4_fund 1 = .ok (.iload_n 1, 1) := by decide +kernel
theorem dX4_fund_2 : decode cX4_fund 2 = .ok (.invokevirtual 105, 3) := by decide +kernel
theorem dX4_fund_5 : decode cX4_fund 5 = .ok (.ifCond .eq 12, 3) := by decide +kernel
theorem dX4_fund_8 : decode cX4_fund 8 = .ok (.iload_n 2, 1) := by decide +kernel
theorem dX4_fund_9 : decode cX4_fund 9 = .ok (.iconst 0, 1) := by decide +kernel
theorem dX4_fund_10 : decode cX4_fund 10 = .ok (.iconst 1, 1) := by decide +kernel
theorem dX4_fund_11 : decode cX4_fund 11 = .ok (.invokestatic 64, 3) := by decide +kernel
theorem dX4_fund_14 : decode cX4_fund 14 = .ok (.ifCond .ne 9, 3) := by decide +kernel
theorem dX4_fund_17 : decode cX4_fund 17 = .ok (.aload_n 0, 1) := by decide +kernel
theorem dX4_fund_18 : decode cX4_fund 18 = .ok (.iconst 1, 1) := by decide +kernel
theorem dX4_fund_19 : decode cX4_fund 19 = .ok (.invokevirtual 68, 3) := by decide +kernel
theorem dX4_fund_22 : decode cX4_fund 22 = .ok (.ireturn, 1) := by decide +kernel
theorem dX4_fund_23 : decode cX4_fund 23 = .ok (.aload_n 0, 1) := by decide +kernel
theorem dX4_fund_24 : decode cX4_fund 24 = .ok (.invokevirtual 78, 3) := by decide +kernel
theorem dX4_fund_27 : decode cX4_fund 27 = .ok (.aload_n 0, 1) := by decide +kernel
theorem dX4_fund_28 : decode cX4_fund 28 = .ok (.getfield 19, 3) := by decide +kernel
theorem dX4_fund_31 : decode cX4_fund 31 = .ok (.iload_n 1, 1) := by decide +kernel
theorem dX4_fund_32 : decode cX4_fund 32 = .ok (.iload_n 2, 1) := by decide +kernel
theorem dX4_fund_33 : decode cX4_fund 33 = .ok (.ifCond .ne 8, 3) := by decide +kernel
theorem dX4_fund_36 : decode cX4_fund 36 = .ok (.bipush 6, 2) := by decide +kernel
theorem dX4_fund_38 : decode cX4_fund 38 = .ok (.goto 4, 3) := by decide +kernel
theorem dX4_fund_41 : decode cX4_fund 41 = .ok (.iconst 5, 1) := by decide +kernel
theorem dX4_fund_42 : decode cX4_fund 42 = .ok (.invokevirtual 153, 3) := by decide +kernel
theorem dX4_fund_45 : decode cX4_fund 45 = .ok (.l2i, 1) := by decide +kernel
theorem dX4_fund_46 : decode cX4_fund 46 = .ok (.ireturn, 1) := by decide +kernel
theorem dX4_pays_0 : decode cX4_pays 0 = .ok (.aload_n 0, 1) := by decide +kernel
theorem dX4_pays_1 : decode cX4_pays 1 = .ok (.iload_n 1, 1) := by decide +kernel
theorem dX4_pays_2 : decode cX4_pays 2 = .ok (.invokevirtual 105, 3) := by decide +kernel
theorem dX4_pays_5 : decode cX4_pays 5 = .ok (.ifCond .eq 11, 3) := by decide +kernel
theorem dX4_pays_8 : decode cX4_pays 8 = .ok (.aload_n 0, 1) := by decide +kernel
theorem dX4_pays_9 : decode cX4_pays 9 = .ok (.iload_n 2, 1) := by decide +kernel
theorem dX4_pays_10 : decode cX4_pays 10 = .ok (.invokevirtual 116, 3) := by decide +kernel
theorem dX4_pays_13 : decode cX4_pays 13 = .ok (.ifCond .ne 9, 3) := by decide +kernel
theorem dX4_pays_16 : decode cX4_pays 16 = .ok (.aload_n 0, 1) := by decide +kernel
theorem dX4_pays_17 : decode cX4_pays 17 = .ok (.iconst 1, 1) := by decide +kernel
theorem dX4_pays_18 : decode cX4_pays 18 = .ok (.invokevirtual 68, 3) := by decide +kernel
theorem dX4_pays_21 : decode cX4_pays 21 = .ok (.ireturn, 1) := by decide +kernel
theorem dX4_pays_22 : decode cX4_pays 22 = .ok (.aload_n 0, 1) := by decide +kernel
theorem dX4_pays_23 : decode cX4_pays 23 = .ok (.invokevirtual 78, 3) := by decide +kernel
theorem dX4_pays_26 : decode cX4_pays 26 = .ok (.aload_n 0, 1) := by decide +kernel
theorem dX4_pays_27 : decode cX4_pays 27 = .ok (.invokevirtual 126, 3) := by decide +kernel
theorem dX4_pays_30 : decode cX4_pays 30 = .ok (.aload_n 0, 1) := by decide +kernel
theorem dX4_pays_31 : decode cX4_pays 31 = .ok (.getfield 26, 3) := by decide +kernel
theorem dX4_pays_34 : decode cX4_pays 34 = .ok (.iload_n 1, 1) := by decide +kernel
theorem dX4_pays_35 : decode cX4_pays 35 = .ok (.iload_n 2, 1) := by decide +kernel
theorem dX4_pays_36 : decode cX4_pays 36 = .ok (.invokevirtual 156, 3) := by decide +kernel
theorem dX4_pays_39 : decode cX4_pays 39 = .ok (.l2i, 1) := by decide +kernel
theorem dX4_pays_40 : decode cX4_pays 40 = .ok (.ireturn, 1) := by decide +kernel
theorem dX4_paysTo_0 : decode cX4_paysTo 0 = .ok (.aload_n 0, 1) := by decide +kernel
theorem dX4_paysTo_1 : decode cX4_paysTo 1 = .ok (.iload_n 1, 1) := by decide +kernel
theorem dX4_paysTo_2 : decode cX4_paysTo 2 = .ok (.invokevirtual 105, 3) := by decide +kernel
theorem dX4_paysTo_5 : decode cX4_paysTo 5 = .ok (.ifCond .eq 11, 3) := by decide +kernel
theorem dX4_paysTo_8 : decode cX4_paysTo 8 = .ok (.aload_n 0, 1) := by decide +kernel
theorem dX4_paysTo_9 : decode cX4_paysTo 9 = .ok (.iload_n 2, 1) := by decide +kernel
theorem dX4_paysTo_10 : decode cX4_paysTo 10 = .ok (.invokevirtual 105, 3) := by decide +kernel
theorem dX4_paysTo_13 : decode cX4_paysTo 13 = .ok (.ifCond .ne 10, 3) := by decide +kernel
theorem dX4_paysTo_16 : decode cX4_paysTo 16 = .ok (.aload_n 0, 1) := by decide +kernel
theorem dX4_paysTo_17 : decode cX4_paysTo 17 = .ok (.iconst 1, 1) := by decide +kernel
theorem dX4_paysTo_18 : decode cX4_paysTo 18 = .ok (.invokevirtual 68, 3) := by decide +kernel
theorem dX4_paysTo_21 : decode cX4_paysTo 21 = .ok (.i2l, 1) := by decide +kernel
theorem dX4_paysTo_22 : decode cX4_paysTo 22 = .ok (.lreturn, 1) := by decide +kernel
theorem dX4_paysTo_23 : decode cX4_paysTo 23 = .ok (.iload_n 1, 1) := by decide +kernel
theorem dX4_paysTo_24 : decode cX4_paysTo 24 = .ok (.iload_n 2, 1) := by decide +kernel
theorem dX4_paysTo_25 : decode cX4_paysTo 25 = .ok (.if_icmp .ne 10, 3) := by decide +kernel
theorem dX4_paysTo_28 : decode cX4_paysTo 28 = .ok (.aload_n 0, 1) := by decide +kernel
theorem dX4_paysTo_29 : decode cX4_paysTo 29 = .ok (.iconst 5, 1) := by decide +kernel
theorem dX4_paysTo_30 : decode cX4_paysTo 30 = .ok (.invokevirtual 68, 3) := by decide +kernel
theorem dX4_paysTo_33 : decode cX4_paysTo 33 = .ok (.i2l, 1) := by decide +kernel
theorem dX4_paysTo_34 : decode cX4_paysTo 34 = .ok (.lreturn, 1) := by decide +kernel
theorem dX4_paysTo_35 : decode cX4_paysTo 35 = .ok (.aload_n 0, 1) := by decide +kernel
theorem dX4_paysTo_36 : decode cX4_paysTo 36 = .ok (.invokevirtual 78, 3) := by decide +kernel
theorem dX4_paysTo_39 : decode cX4_paysTo 39 = .ok (.aload_n 0, 1) := by decide +kernel
theorem dX4_paysTo_40 : decode cX4_paysTo 40 = .ok (.invokevirtual 126, 3) := by decide +kernel
theorem dX4_paysTo_43 : decode cX4_paysTo 43 = .ok (.aload_n 0, 1) := by decide +kernel
theorem dX4_paysTo_44 : decode cX4_paysTo 44 = .ok (.getfield 26, 3) := by decide +kernel
theorem dX4_paysTo_47 : decode cX4_paysTo 47 = .ok (.iload_n 1, 1) := by decide +kernel
theorem dX4_paysTo_48 : decode cX4_paysTo 48 = .ok (.iload_n 2, 1) := by decide +kernel
theorem dX4_paysTo_49 : decode cX4_paysTo 49 = .ok (.invokevirtual 159, 3) := by decide +kernel
theorem dX4_paysTo_52 : decode cX4_paysTo 52 = .ok (.lreturn, 1) := by decide +kernel
theorem dX4_sum_0 : decode cX4_sum 0 = .ok (.aload_n 0, 1) := by decide +kernel
theorem dX4_sum_1 : decode cX4_sum 1 = .ok (.iload_n 1, 1) := by decide +kernel
theorem dX4_sum_2 : decode cX4_sum 2 = .ok (.invokevirtual 105, 3) := by decide +kernel
theorem dX4_sum_5 : decode cX4_sum 5 = .ok (.ifCond .eq 12, 3) := by decide +kernel
theorem dX4_sum_8 : decode cX4_sum 8 = .ok (.iload_n 2, 1) := by decide +kernel
theorem dX4_sum_9 : decode cX4_sum 9 = .ok (.iconst 0, 1) := by decide +kernel
theorem dX4_sum_10 : decode cX4_sum 10 = .ok (.iconst 1, 1) := by decide +kernel
theorem dX4_sum_11 : decode cX4_sum 11 = .ok (.invokestatic 64, 3) := by decide +kernel
theorem dX4_sum_14 : decode cX4_sum 14 = .ok (.ifCond .ne 10, 3) := by decide +kernel
theorem dX4_sum_17 : decode cX4_sum 17 = .ok (.aload_n 0, 1) := by decide +kernel
theorem dX4_sum_18 : decode cX4_sum 18 = .ok (.iconst 1, 1) := by decide +kernel
theorem dX4_sum_19 : decode cX4_sum 19 = .ok (.invokevirtual 68, 3) := by decide +kernel
theorem dX4_sum_22 : decode cX4_sum 22 = .ok (.i2l, 1) := by decide +kernel
theorem dX4_sum_23 : decode cX4_sum 23 = .ok (.lreturn, 1) := by decide +kernel
theorem dX4_sum_24 : decode cX4_sum 24 = .ok (.aload_n 0, 1) := by decide +kernel
theorem dX4_sum_25 : decode cX4_sum 25 = .ok (.invokevirtual 78, 3) := by decide +kernel
theorem dX4_sum_28 : decode cX4_sum 28 = .ok (.aload_n 0, 1) := by decide +kernel
theorem dX4_sum_29 : decode cX4_sum 29 = .ok (.invokevirtual 126, 3) := by decide +kernel
theorem dX4_sum_32 : decode cX4_sum 32 = .ok (.iload_n 2, 1) := by decide +kernel
theorem dX4_sum_33 : decode cX4_sum 33 = .ok (.ifCond .ne 14, 3) := by decide +kernel
theorem dX4_sum_36 : decode cX4_sum 36 = .ok (.aload_n 0, 1) := by decide +kernel
theorem dX4_sum_37 : decode cX4_sum 37 = .ok (.getfield 26, 3) := by decide +kernel
theorem dX4_sum_40 : decode cX4_sum 40 = .ok (.iload_n 1, 1) := by decide +kernel
theorem dX4_sum_41 : decode cX4_sum 41 = .ok (.invokevirtual 162, 3) := by decide +kernel
theorem dX4_sum_44 : decode cX4_sum 44 = .ok (.goto 11, 3) := by decide +kernel
theorem dX4_sum_47 : decode cX4_sum 47 = .ok (.aload_n 0, 1) := by decide +kernel
theorem dX4_sum_48 : decode cX4_sum 48 = .ok (.getfield 26, 3) := by decide +kernel
theorem dX4_sum_51 : decode cX4_sum 51 = .ok (.iload_n 1, 1) := by decide +kernel
theorem dX4_sum_52 : decode cX4_sum 52 = .ok (.invokevirtual 165, 3) := by decide +kernel
theorem dX4_sum_55 : decode cX4_sum 55 = .ok (.lreturn, 1) := by decide +kernel
theorem dX4_bites_0 : decode cX4_bites 0 = .ok (.aload_n 0, 1) := by decide +kernel
theorem dX4_bites_1 : decode cX4_bites 1 = .ok (.iload_n 1, 1) := by decide +kernel
theorem dX4_bites_2 : decode cX4_bites 2 = .ok (.invokevirtual 105, 3) := by decide +kernel
theorem dX4_bites_5 : decode cX4_bites 5 = .ok (.ifCond .ne 9, 3) := by decide +kernel
theorem dX4_bites_8 : decode cX4_bites 8 = .ok (.aload_n 0, 1) := by decide +kernel
theorem dX4_bites_9 : decode cX4_bites 9 = .ok (.iconst 1, 1) := by decide +kernel
theorem dX4_bites_10 : decode cX4_bites 10 = .ok (.invokevirtual 68, 3) := by decide +kernel
theorem dX4_bites_13 : decode cX4_bites 13 = .ok (.ireturn, 1) := by decide +kernel
theorem dX4_bites_14 : decode cX4_bites 14 = .ok (.aload_n 0, 1) := by decide +kernel
theorem dX4_bites_15 : decode cX4_bites 15 = .ok (.invokevirtual 78, 3) := by decide +kernel
theorem dX4_bites_18 : decode cX4_bites 18 = .ok (.aload_n 0, 1) := by decide +kernel
theorem dX4_bites_19 : decode cX4_bites 19 = .ok (.invokevirtual 126, 3) := by decide +kernel
theorem dX4_bites_22 : decode cX4_bites 22 = .ok (.aload_n 0, 1) := by decide +kernel
theorem dX4_bites_23 : decode cX4_bites 23 = .ok (.getfield 26, 3) := by decide +kernel
theorem dX4_bites_26 : decode cX4_bites 26 = .ok (.iload_n 1, 1) := by decide +kernel
theorem dX4_bites_27 : decode cX4_bites 27 = .ok (.invokevirtual 165, 3) := by decide +kernel
theorem dX4_bites_30 : decode cX4_bites 30 = .ok (.aload_n 0, 1) := by decide +kernel
theorem dX4_bites_31 : decode cX4_bites 31 = .ok (.getfield 26, 3) := by decide +kernel
theorem dX4_bites_34 : decode cX4_bites 34 = .ok (.iload_n 1, 1) := by decide +kernel
theorem dX4_bites_35 : decode cX4_bites 35 = .ok (.invokevirtual 162, 3) := by decide +kernel
theorem dX4_bites_38 : decode cX4_bites 38 = .ok (.lcmp, 1) := by decide +kernel
theorem dX4_bites_39 : decode cX4_bites 39 = .ok (.ifCond .ge 7, 3) := by decide +kernel
theorem dX4_bites_42 : decode cX4_bites 42 = .ok (.iconst 1, 1) := by decide +kernel
theorem dX4_bites_43 : decode cX4_bites 43 = .ok (.goto 4, 3) := by decide +kernel
theorem dX4_bites_46 : decode cX4_bites 46 = .ok (.iconst 0, 1) := by decide +kernel
theorem dX4_bites_47 : decode cX4_bites 47 = .ok (.ireturn, 1) := by decide +kernel
theorem dX4_gets_0 : decode cX4_gets 0 = .ok (.aload_n 0, 1) := by decide +kernel
theorem dX4_gets_1 : decode cX4_gets 1 = .ok (.iload_n 1, 1) := by decide +kernel
theorem dX4_gets_2 : decode cX4_gets 2 = .ok (.invokevirtual 116, 3) := by decide +kernel
theorem dX4_gets_5 : decode cX4_gets 5 = .ok (.ifCond .eq 12, 3) := by decide +kernel
theorem dX4_gets_8 : decode cX4_gets 8 = .ok (.iload_n 2, 1) := by decide +kernel
theorem dX4_gets_9 : decode cX4_gets 9 = .ok (.iconst 0, 1) := by decide +kernel
theorem dX4_gets_10 : decode cX4_gets 10 = .ok (.iconst 2, 1) := by decide +kernel
theorem dX4_gets_11 : decode cX4_gets 11 = .ok (.invokestatic 64, 3) := by decide +kernel
theorem dX4_gets_14 : decode cX4_gets 14 = .ok (.ifCond .ne 10, 3) := by decide +kernel
theorem dX4_gets_17 : decode cX4_gets 17 = .ok (.aload_n 0, 1) := by decide +kernel
theorem dX4_gets_18 : decode cX4_gets 18 = .ok (.iconst 1, 1) := by decide +kernel
theorem dX4_gets_19 : decode cX4_gets 19 = .ok (.invokevirtual 68, 3) := by decide +kernel
theorem dX4_gets_22 : decode cX4_gets 22 = .ok (.i2l, 1) := by decide +kernel
theorem dX4_gets_23 : decode cX4_gets 23 = .ok (.lreturn, 1) := by decide +kernel
theorem dX4_gets_24 : decode cX4_gets 24 = .ok (.aload_n 0, 1) := by decide +kernel
theorem dX4_gets_25 : decode cX4_gets 25 = .ok (.invokevirtual 78, 3) := by decide +kernel
theorem dX4_gets_28 : decode cX4_gets 28 = .ok (.aload_n 0, 1) := by decide +kernel
theorem dX4_gets_29 : decode cX4_gets 29 = .ok (.invokevirtual 126, 3) := by decide +kernel
theorem dX4_gets_32 : decode cX4_gets 32 = .ok (.iload_n 2, 1) := by decide +kernel
theorem dX4_gets_33 : decode cX4_gets 33 = .ok (.ifCond .ne 12, 3) := by decide +kernel
theorem dX4_gets_36 : decode cX4_gets 36 = .ok (.aload_n 0, 1) := by decide +kernel
theorem dX4_gets_37 : decode cX4_gets 37 = .ok (.getfield 26, 3) := by decide +kernel
theorem dX4_gets_40 : decode cX4_gets 40 = .ok (.iload_n 1, 1) := by decide +kernel
theorem dX4_gets_41 : decode cX4_gets 41 = .ok (.invokevirtual 168, 3) := by decide +kernel
theorem dX4_gets_44 : decode cX4_gets 44 = .ok (.lreturn, 1) := by decide +kernel
theorem dX4_gets_45 : decode cX4_gets 45 = .ok (.iload_n 2, 1) := by decide +kernel
theorem dX4_gets_46 : decode cX4_gets 46 = .ok (.iconst 1, 1) := by decide +kernel
theorem dX4_gets_47 : decode cX4_gets 47 = .ok (.if_icmp .ne 14, 3) := by decide +kernel
theorem dX4_gets_50 : decode cX4_gets 50 = .ok (.aload_n 0, 1) := by decide +kernel
theorem dX4_gets_51 : decode cX4_gets 51 = .ok (.getfield 26, 3) := by decide +kernel
theorem dX4_gets_54 : decode cX4_gets 54 = .ok (.iload_n 1, 1) := by decide +kernel
theorem dX4_gets_55 : decode cX4_gets 55 = .ok (.invokevirtual 171, 3) := by decide +kernel
theorem dX4_gets_58 : decode cX4_gets 58 = .ok (.goto 11, 3) := by decide +kernel
theorem dX4_gets_61 : decode cX4_gets 61 = .ok (.aload_n 0, 1) := by decide +kernel
theorem dX4_gets_62 : decode cX4_gets 62 = .ok (.getfield 26, 3) := by decide +kernel
theorem dX4_gets_65 : decode cX4_gets 65 = .ok (.iload_n 1, 1) := by decide +kernel
theorem dX4_gets_66 : decode cX4_gets 66 = .ok (.invokevirtual 174, 3) := by decide +kernel
theorem dX4_gets_69 : decode cX4_gets 69 = .ok (.lreturn, 1) := by decide +kernel
theorem dX4_cover_0 : decode cX4_cover 0 = .ok (.aload_n 0, 1) := by decide +kernel
theorem dX4_cover_1 : decode cX4_cover 1 = .ok (.iload_n 1, 1) := by decide +kernel
theorem dX4_cover_2 : decode cX4_cover 2 = .ok (.invokevirtual 105, 3) := by decide +kernel
theorem dX4_cover_5 : decode cX4_cover 5 = .ok (.ifCond .eq 12, 3) := by decide +kernel
theorem dX4_cover_8 : decode cX4_cover 8 = .ok (.iload_n 2, 1) := by decide +kernel
theorem dX4_cover_9 : decode cX4_cover 9 = .ok (.iconst 0, 1) := by decide +kernel
theorem dX4_cover_10 : decode cX4_cover 10 = .ok (.iconst 1, 1) := by decide +kernel
theorem dX4_cover_11 : decode cX4_cover 11 = .ok (.invokestatic 64, 3) := by decide +kernel
theorem dX4_cover_14 : decode cX4_cover 14 = .ok (.ifCond .ne 10, 3) := by decide +kernel
theorem dX4_cover_17 : decode cX4_cover 17 = .ok (.aload_n 0, 1) := by decide +kernel
theorem dX4_cover_18 : decode cX4_cover 18 = .ok (.iconst 1, 1) := by decide +kernel
theorem dX4_cover_19 : decode cX4_cover 19 = .ok (.invokevirtual 68, 3) := by decide +kernel
theorem dX4_cover_22 : decode cX4_cover 22 = .ok (.i2l, 1) := by decide +kernel
theorem dX4_cover_23 : decode cX4_cover 23 = .ok (.lreturn, 1) := by decide +kernel
theorem dX4_cover_24 : decode cX4_cover 24 = .ok (.aload_n 0, 1) := by decide +kernel
theorem dX4_cover_25 : decode cX4_cover 25 = .ok (.invokevirtual 78, 3) := by decide +kernel
theorem dX4_cover_28 : decode cX4_cover 28 = .ok (.aload_n 0, 1) := by decide +kernel
theorem dX4_cover_29 : decode cX4_cover 29 = .ok (.invokevirtual 126, 3) := by decide +kernel
theorem dX4_cover_32 : decode cX4_cover 32 = .ok (.aload_n 0, 1) := by decide +kernel
theorem dX4_cover_33 : decode cX4_cover 33 = .ok (.getfield 26, 3) := by decide +kernel
theorem dX4_cover_36 : decode cX4_cover 36 = .ok (.iload_n 1, 1) := by decide +kernel
theorem dX4_cover_37 : decode cX4_cover 37 = .ok (.invokevirtual 177, 3) := by decide +kernel
theorem dX4_cover_40 : decode cX4_cover 40 = .ok (.lstore_n 3, 1) := by decide +kernel
theorem dX4_cover_41 : decode cX4_cover 41 = .ok (.iload_n 2, 1) := by decide +kernel
theorem dX4_cover_42 : decode cX4_cover 42 = .ok (.ifCond .ne 7, 3) := by decide +kernel
theorem dX4_cover_45 : decode cX4_cover 45 = .ok (.lload_n 3, 1) := by decide +kernel
theorem dX4_cover_46 : decode cX4_cover 46 = .ok (.goto 13, 3) := by decide +kernel
theorem dX4_cover_49 : decode cX4_cover 49 = .ok (.aload_n 0, 1) := by decide +kernel
theorem dX4_cover_50 : decode cX4_cover 50 = .ok (.getfield 26, 3) := by decide +kernel
theorem dX4_cover_53 : decode cX4_cover 53 = .ok (.iload_n 1, 1) := by decide +kernel
theorem dX4_cover_54 : decode cX4_cover 54 = .ok (.invokevirtual 165, 3) := by decide +kernel
theorem dX4_cover_57 : decode cX4_cover 57 = .ok (.lload_n 3, 1) := by decide +kernel
theorem dX4_cover_58 : decode cX4_cover 58 = .ok (.lsub, 1) := by decide +kernel
theorem dX4_cover_59 : decode cX4_cover 59 = .ok (.lreturn, 1) := by decide +kernel
theorem dX4_net_0 : decode cX4_net 0 = .ok (.aload_n 0, 1) := by decide +kernel
theorem dX4_net_1 : decode cX4_net 1 = .ok (.iload_n 1, 1) := by decide +kernel
theorem dX4_net_2 : decode cX4_net 2 = .ok (.invokevirtual 105, 3) := by decide +kernel
theorem dX4_net_5 : decode cX4_net 5 = .ok (.ifCond .ne 9, 3) := by decide +kernel
theorem dX4_net_8 : decode cX4_net 8 = .ok (.aload_n 0, 1) := by decide +kernel
theorem dX4_net_9 : decode cX4_net 9 = .ok (.iconst 1, 1) := by decide +kernel
theorem dX4_net_10 : decode cX4_net 10 = .ok (.invokevirtual 180, 3) := by decide +kernel
theorem dX4_net_13 : decode cX4_net 13 = .ok (.lreturn, 1) := by decide +kernel
theorem dX4_net_14 : decode cX4_net 14 = .ok (.aload_n 0, 1) := by decide +kernel
theorem dX4_net_15 : decode cX4_net 15 = .ok (.invokevirtual 78, 3) := by decide +kernel
theorem dX4_net_18 : decode cX4_net 18 = .ok (.aload_n 0, 1) := by decide +kernel
theorem dX4_net_19 : decode cX4_net 19 = .ok (.invokevirtual 126, 3) := by decide +kernel
theorem dX4_net_22 : decode cX4_net 22 = .ok (.aload_n 0, 1) := by decide +kernel
theorem dX4_net_23 : decode cX4_net 23 = .ok (.getfield 26, 3) := by decide +kernel
theorem dX4_net_26 : decode cX4_net 26 = .ok (.iload_n 1, 1) := by decide +kernel
theorem dX4_net_27 : decode cX4_net 27 = .ok (.invokevirtual 183, 3) := by decide +kernel
theorem dX4_net_30 : decode cX4_net 30 = .ok (.lreturn, 1) := by decide +kernel
theorem dX4_netBy_0 : decode cX4_netBy 0 = .ok (.aload_n 0, 1) := by decide +kernel
theorem dX4_netBy_1 : decode cX4_netBy 1 = .ok (.iload_n 1, 1) := by decide +kernel
theorem dX4_netBy_2 : decode cX4_netBy 2 = .ok (.invokevirtual 105, 3) := by decide +kernel
theorem dX4_netBy_5 : decode cX4_netBy 5 = .ok (.ifCond .ne 9, 3) := by decide +kernel
theorem dX4_netBy_8 : decode cX4_netBy 8 = .ok (.aload_n 0, 1) := by decide +kernel
theorem dX4_netBy_9 : decode cX4_netBy 9 = .ok (.iconst 1, 1) := by decide +kernel
theorem dX4_netBy_10 : decode cX4_netBy 10 = .ok (.invokevirtual 180, 3) := by decide +kernel
theorem dX4_netBy_13 : decode cX4_netBy 13 = .ok (.lreturn, 1) := by decide +kernel
theorem dX4_netBy_14 : decode cX4_netBy 14 = .ok (.iload_n 2, 1) := by decide +kernel
theorem dX4_netBy_15 : decode cX4_netBy 15 = .ok (.iconst 0, 1) := by decide +kernel
theorem dX4_netBy_16 : decode cX4_netBy 16 = .ok (.bipush 7, 2) := by decide +kernel
theorem dX4_netBy_18 : decode cX4_netBy 18 = .ok (.invokestatic 64, 3) := by decide +kernel
theorem dX4_netBy_21 : decode cX4_netBy 21 = .ok (.ifCond .ne 9, 3) := by decide +kernel
theorem dX4_netBy_24 : decode cX4_netBy 24 = .ok (.aload_n 0, 1) := by decide +kernel
theorem dX4_netBy_25 : decode cX4_netBy 25 = .ok (.iconst 2, 1) := by decide +kernel
theorem dX4_netBy_26 : decode cX4_netBy 26 = .ok (.invokevirtual 180, 3) := by decide +kernel
theorem dX4_netBy_29 : decode cX4_netBy 29 = .ok (.lreturn, 1) := by decide +kernel
theorem dX4_netBy_30 : decode cX4_netBy 30 = .ok (.aload_n 0, 1) := by decide +kernel
theorem dX4_netBy_31 : decode cX4_netBy 31 = .ok (.invokevirtual 78, 3) := by decide +kernel
theorem dX4_netBy_34 : decode cX4_netBy 34 = .ok (.aload_n 0, 1) := by decide +kernel
theorem dX4_netBy_35 : decode cX4_netBy 35 = .ok (.iload_n 1, 1) := by decide +kernel
theorem dX4_netBy_36 : decode cX4_netBy 36 = .ok (.iload_n 2, 1) := by decide +kernel
theorem dX4_netBy_37 : decode cX4_netBy 37 = .ok (.invokevirtual 186, 3) := by decide +kernel
theorem dX4_netBy_40 : decode cX4_netBy 40 = .ok (.lreturn, 1) := by decide +kernel
theorem dX4_wished_0 : decode cX4_wished 0 = .ok (.aload_n 0, 1) := by decide +kernel
theorem dX4_wished_1 : decode cX4_wished 1 = .ok (.iload_n 1, 1) := by decide +kernel
theorem dX4_wished_2 : decode cX4_wished 2 = .ok (.invokevirtual 105, 3) := by decide +kernel
theorem dX4_wished_5 : decode cX4_wished 5 = .ok (.ifCond .ne 9, 3) := by decide +kernel
theorem dX4_wished_8 : decode cX4_wished 8 = .ok (.aload_n 0, 1) := by decide +kernel
theorem dX4_wished_9 : decode cX4_wished 9 = .ok (.iconst 1, 1) := by decide +kernel
theorem dX4_wished_10 : decode cX4_wished 10 = .ok (.invokevirtual 68, 3) := by decide +kernel
theorem dX4_wished_13 : decode cX4_wished 13 = .ok (.ireturn, 1) := by decide +kernel
theorem dX4_wished_14 : decode cX4_wished 14 = .ok (.aload_n 0, 1) := by decide +kernel
theorem dX4_wished_15 : decode cX4_wished 15 = .ok (.invokevirtual 78, 3) := by decide +kernel
theorem dX4_wished_18 : decode cX4_wished 18 = .ok (.iconst 0, 1) := by decide +kernel
theorem dX4_wished_19 : decode cX4_wished 19 = .ok (.istore_n 2, 1) := by decide +kernel
theorem dX4_wished_20 : decode cX4_wished 20 = .ok (.aload_n 0, 1) := by decide +kernel
theorem dX4_wished_21 : decode cX4_wished 21 = .ok (.iload_n 1, 1) := by decide +kernel
theorem dX4_wished_22 : decode cX4_wished 22 = .ok (.iconst 0, 1) := by decide +kernel
theorem dX4_wished_23 : decode cX4_wished 23 = .ok (.invokevirtual 186, 3) := by decide +kernel
theorem dX4_wished_26 : decode cX4_wished 26 = .ok (.lstore_n 3, 1) := by decide +kernel
theorem dX4_wished_27 : decode cX4_wished 27 = .ok (.iconst 1, 1) := by decide +kernel
theorem dX4_wished_28 : decode cX4_wished 28 = .ok (.istore 5, 2) := by decide +kernel
theorem dX4_wished_30 : decode cX4_wished 30 = .ok (.iload 5, 2) := by decide +kernel
theorem dX4_wished_32 : decode cX4_wished 32 = .ok (.bipush 8, 2) := by decide +kernel
theorem dX4_wished_34 : decode cX4_wished 34 = .ok (.if_icmp .ge 31, 3) := by decide +kernel
theorem dX4_wished_37 : decode cX4_wished 37 = .ok (.aload_n 0, 1) := by decide +kernel
theorem dX4_wished_38 : decode cX4_wished 38 = .ok (.iload_n 1, 1) := by decide +kernel
theorem dX4_wished_39 : decode cX4_wished 39 = .ok (.iload 5, 2) := by decide +kernel
theorem dX4_wished_41 : decode cX4_wished 41 = .ok (.invokevirtual 186, 3) := by decide +kernel
theorem dX4_wished_44 : decode cX4_wished 44 = .ok (.lstore 6, 2) := by decide +kernel
theorem dX4_wished_46 : decode cX4_wished 46 = .ok (.lload 6, 2) := by decide +kernel
theorem dX4_wished_48 : decode cX4_wished 48 = .ok (.lload_n 3, 1) := by decide +kernel
theorem dX4_wished_49 : decode cX4_wished 49 = .ok (.lcmp, 1) := by decide +kernel
theorem dX4_wished_50 : decode cX4_wished 50 = .ok (.ifCond .le 9, 3) := by decide +kernel
theorem dX4_wished_53 : decode cX4_wished 53 = .ok (.lload 6, 2) := by decide +kernel
theorem dX4_wished_55 : decode cX4_wished 55 = .ok (.lstore_n 3, 1) := by decide +kernel
theorem dX4_wished_56 : decode cX4_wished 56 = .ok (.iload 5, 2) := by decide +kernel
theorem dX4_wished_58 : decode cX4_wished 58 = .ok (.istore_n 2, 1) := by decide +kernel
theorem dX4_wished_59 : decode cX4_wished 59 = .ok (.iinc 5 1, 3) := by decide +kernel
theorem dX4_wished_62 : decode cX4_wished 62 = .ok (.goto (-32), 3) := by decide +kernel
theorem dX4_wished_65 : decode cX4_wished 65 = .ok (.iload_n 2, 1) := by decide +kernel
theorem dX4_wished_66 : decode cX4_wished 66 = .ok (.ireturn, 1) := by decide +kernel
theorem dX4_gap_0 : decode cX4_gap 0 = .ok (.aload_n 0, 1) := by decide +kernel
theorem dX4_gap_1 : decode cX4_gap 1 = .ok (.iload_n 1, 1) := by decide +kernel
theorem dX4_gap_2 : decode cX4_gap 2 = .ok (.invokevirtual 105, 3) := by decide +kernel
theorem dX4_gap_5 : decode cX4_gap 5 = .ok (.ifCond .ne 9, 3) := by decide +kernel
theorem dX4_gap_8 : decode cX4_gap 8 = .ok (.aload_n 0, 1) := by decide +kernel
theorem dX4_gap_9 : decode cX4_gap 9 = .ok (.iconst 1, 1) := by decide +kernel
theorem dX4_gap_10 : decode cX4_gap 10 = .ok (.invokevirtual 180, 3) := by decide +kernel
theorem dX4_gap_13 : decode cX4_gap 13 = .ok (.lreturn, 1) := by decide +kernel
theorem dX4_gap_14 : decode cX4_gap 14 = .ok (.aload_n 0, 1) := by decide +kernel
theorem dX4_gap_15 : decode cX4_gap 15 = .ok (.invokevirtual 78, 3) := by decide +kernel
theorem dX4_gap_18 : decode cX4_gap 18 = .ok (.aload_n 0, 1) := by decide +kernel
theorem dX4_gap_19 : decode cX4_gap 19 = .ok (.getfield 19, 3) := by decide +kernel
theorem dX4_gap_22 : decode cX4_gap 22 = .ok (.getfield 101, 3) := by decide +kernel
theorem dX4_gap_25 : decode cX4_gap 25 = .ok (.iconst 2, 1) := by decide +kernel
theorem dX4_gap_26 : decode cX4_gap 26 = .ok (.iaload, 1) := by decide +kernel
theorem dX4_gap_27 : decode cX4_gap 27 = .ok (.iconst 2, 1) := by decide +kernel
theorem dX4_gap_28 : decode cX4_gap 28 = .ok (.aload_n 0, 1) := by decide +kernel
theorem dX4_gap_29 : decode cX4_gap 29 = .ok (.getfield 19, 3) := by decide +kernel
theorem dX4_gap_32 : decode cX4_gap 32 = .ok (.getfield 101, 3) := by decide +kernel
theorem dX4_gap_35 : decode cX4_gap 35 = .ok (.iconst 3, 1) := by decide +kernel
theorem dX4_gap_36 : decode cX4_gap 36 = .ok (.iaload, 1) := by decide +kernel
theorem dX4_gap_37 : decode cX4_gap 37 = .ok (.imul, 1) := by decide +kernel
theorem dX4_gap_38 : decode cX4_gap 38 = .ok (.iadd, 1) := by decide +kernel
theorem dX4_gap_39 : decode cX4_gap 39 = .ok (.istore_n 2, 1) := by decide +kernel
theorem dX4_gap_40 : decode cX4_gap 40 = .ok (.aload_n 0, 1) := by decide +kernel
theorem dX4_gap_41 : decode cX4_gap 41 = .ok (.iload_n 1, 1) := by decide +kernel
theorem dX4_gap_42 : decode cX4_gap 42 = .ok (.iload_n 2, 1) := by decide +kernel
theorem dX4_gap_43 : decode cX4_gap 43 = .ok (.iconst 4, 1) := by decide +kernel
theorem dX4_gap_44 : decode cX4_gap 44 = .ok (.iadd, 1) := by decide +kernel
theorem dX4_gap_45 : decode cX4_gap 45 = .ok (.invokevirtual 186, 3) := by decide +kernel
theorem dX4_gap_48 : decode cX4_gap 48 = .ok (.aload_n 0, 1) := by decide +kernel
theorem dX4_gap_49 : decode cX4_gap 49 = .ok (.iload_n 1, 1) := by decide +kernel
theorem dX4_gap_50 : decode cX4_gap 50 = .ok (.iload_n 2, 1) := by decide +kernel
theorem dX4_gap_51 : decode cX4_gap 51 = .ok (.invokevirtual 186, 3) := by decide +kernel
theorem dX4_gap_54 : decode cX4_gap 54 = .ok (.lsub, 1) := by decide +kernel
theorem dX4_gap_55 : decode cX4_gap 55 = .ok (.lreturn, 1) := by decide +kernel
theorem dX4_enough_0 : decode cX4_enough 0 = .ok (.aload_n 0, 1) := by decide +kernel
theorem dX4_enough_1 : decode cX4_enough 1 = .ok (.invokevirtual 94, 3) := by decide +kernel
theorem dX4_enough_4 : decode cX4_enough 4 = .ok (.ifCond .ne 9, 3) := by decide +kernel
theorem dX4_enough_7 : decode cX4_enough 7 = .ok (.aload_n 0, 1) := by decide +kernel
theorem dX4_enough_8 : decode cX4_enough 8 = .ok (.iconst 1, 1) := by decide +kernel
theorem dX4_enough_9 : decode cX4_enough 9 = .ok (.invokevirtual 68, 3) := by decide +kernel
theorem dX4_enough_12 : decode cX4_enough 12 = .ok (.ireturn, 1) := by decide +kernel
theorem dX4_enough_13 : decode cX4_enough 13 = .ok (.aload_n 0, 1) := by decide +kernel
theorem dX4_enough_14 : decode cX4_enough 14 = .ok (.invokevirtual 78, 3) := by decide +kernel
theorem dX4_enough_17 : decode cX4_enough 17 = .ok (.aload_n 0, 1) := by decide +kernel
theorem dX4_enough_18 : decode cX4_enough 18 = .ok (.invokevirtual 126, 3) := by decide +kernel
theorem dX4_enough_21 : decode cX4_enough 21 = .ok (.lconst 0, 1) := by decide +kernel
theorem dX4_enough_22 : decode cX4_enough 22 = .ok (.lstore_n 1, 1) := by decide +kernel
theorem dX4_enough_23 : decode cX4_enough 23 = .ok (.iconst 0, 1) := by decide +kernel
theorem dX4_enough_24 : decode cX4_enough 24 = .ok (.istore_n 3, 1) := by decide +kernel
theorem dX4_enough_25 : decode cX4_enough 25 = .ok (.iload_n 3, 1) := by decide +kernel
theorem dX4_enough_26 : decode cX4_enough 26 = .ok (.aload_n 0, 1) := by decide +kernel
theorem dX4_enough_27 : decode cX4_enough 27 = .ok (.getfield 19, 3) := by decide +kernel
theorem dX4_enough_30 : decode cX4_enough 30 = .ok (.getfield 91, 3) := by decide +kernel
theorem dX4_enough_33 : decode cX4_enough 33 = .ok (.if_icmp .ge 22, 3) := by decide +kernel
theorem dX4_enough_36 : decode cX4_enough 36 = .ok (.lload_n 1, 1) := by decide +kernel
theorem dX4_enough_37 : decode cX4_enough 37 = .ok (.aload_n 0, 1) := by decide +kernel
theorem dX4_enough_38 : decode cX4_enough 38 = .ok (.getfield 26, 3) := by decide +kernel
theorem dX4_enough_41 : decode cX4_enough 41 = .ok (.iload_n 3, 1) := by decide +kernel
theorem dX4_enough_42 : decode cX4_enough 42 = .ok (.invokevirtual 189, 3) := by decide +kernel
theorem dX4_enough_45 : decode cX4_enough 45 = .ok (.invokestatic 192, 3) := by decide +kernel
theorem dX4_enough_48 : decode cX4_enough 48 = .ok (.lstore_n 1, 1) := by decide +kernel
theorem dX4_enough_49 : decode cX4_enough 49 = .ok (.iinc 3 1, 3) := by decide +kernel
theorem dX4_enough_52 : decode cX4_enough 52 = .ok (.goto (-27), 3) := by decide +kernel
theorem dX4_enough_55 : decode cX4_enough 55 = .ok (.lload_n 1, 1) := by decide +kernel
theorem dX4_enough_56 : decode cX4_enough 56 = .ok (.ldc2_w 198, 3) := by decide +kernel
theorem dX4_enough_59 : decode cX4_enough 59 = .ok (.lcmp, 1) := by decide +kernel
theorem dX4_enough_60 : decode cX4_enough 60 = .ok (.ifCond .le 8, 3) := by decide +kernel
theorem dX4_enough_63 : decode cX4_enough 63 = .ok (.bipush (-2), 2) := by decide +kernel
theorem dX4_enough_65 : decode cX4_enough 65 = .ok (.goto 5, 3) := by decide +kernel
theorem dX4_enough_68 : decode cX4_enough 68 = .ok (.lload_n 1, 1) := by decide +kernel
theorem dX4_enough_69 : decode cX4_enough 69 = .ok (.l2i, 1) := by decide +kernel
theorem dX4_enough_70 : decode cX4_enough 70 = .ok (.ireturn, 1) := by decide +kernel
theorem dX4_would_0 : decode cX4_would 0 = .ok (.aload_n 0, 1) := by decide +kernel
theorem dX4_would_1 : decode cX4_would 1 = .ok (.iload_n 1, 1) := by decide +kernel
theorem dX4_would_2 : decode cX4_would 2 = .ok (.invokevirtual 105, 3) := by decide +kernel
theorem dX4_would_5 : decode cX4_would 5 = .ok (.ifCond .eq 11, 3) := by decide +kernel
theorem dX4_would_8 : decode cX4_would 8 = .ok (.aload_n 0, 1) := by decide +kernel
theorem dX4_would_9 : decode cX4_would 9 = .ok (.iload_n 2, 1) := by decide +kernel
theorem dX4_would_10 : decode cX4_would 10 = .ok (.invokevirtual 105, 3) := by decide +kernel
theorem dX4_would_13 : decode cX4_would 13 = .ok (.ifCond .ne 9, 3) := by decide +kernel
theorem dX4_would_16 : decode cX4_would 16 = .ok (.aload_n 0, 1) := by decide +kernel
theorem dX4_would_17 : decode cX4_would 17 = .ok (.iconst 1, 1) := by decide +kernel
theorem dX4_would_18 : decode cX4_would 18 = .ok (.invokevirtual 180, 3) := by decide +kernel
theorem dX4_would_21 : decode cX4_would 21 = .ok (.lreturn, 1) := by decide +kernel
theorem dX4_would_22 : decode cX4_would 22 = .ok (.iload_n 1, 1) := by decide +kernel
theorem dX4_would_23 : decode cX4_would 23 = .ok (.iload_n 2, 1) := by decide +kernel
theorem dX4_would_24 : decode cX4_would 24 = .ok (.if_icmp .ne 9, 3) := by decide +kernel
theorem dX4_would_27 : decode cX4_would 27 = .ok (.aload_n 0, 1) := by decide +kernel
theorem dX4_would_28 : decode cX4_would 28 = .ok (.iconst 5, 1) := by decide +kernel
theorem dX4_would_29 : decode cX4_would 29 = .ok (.invokevirtual 180, 3) := by decide +kernel
theorem dX4_would_32 : decode cX4_would 32 = .ok (.lreturn, 1) := by decide +kernel
theorem dX4_would_33 : decode cX4_would 33 = .ok (.iload_n 3, 1) := by decide +kernel
theorem dX4_would_34 : decode cX4_would 34 = .ok (.iconst 0, 1) := by decide +kernel
theorem dX4_would_35 : decode cX4_would 35 = .ok (.aload_n 0, 1) := by decide +kernel
theorem dX4_would_36 : decode cX4_would 36 = .ok (.iload_n 1, 1) := by decide +kernel
theorem dX4_would_37 : decode cX4_would 37 = .ok (.iload_n 2, 1) := by decide +kernel
theorem dX4_would_38 : decode cX4_would 38 = .ok (.invokevirtual 200, 3) := by decide +kernel
theorem dX4_would_41 : decode cX4_would 41 = .ok (.invokestatic 64, 3) := by decide +kernel
theorem dX4_would_44 : decode cX4_would 44 = .ok (.ifCond .ne 9, 3) := by decide +kernel
theorem dX4_would_47 : decode cX4_would 47 = .ok (.aload_n 0, 1) := by decide +kernel
theorem dX4_would_48 : decode cX4_would 48 = .ok (.iconst 2, 1) := by decide +kernel
theorem dX4_would_49 : decode cX4_would 49 = .ok (.invokevirtual 180, 3) := by decide +kernel
theorem dX4_would_52 : decode cX4_would 52 = .ok (.lreturn, 1) := by decide +kernel
theorem dX4_would_53 : decode cX4_would 53 = .ok (.aload_n 0, 1) := by decide +kernel
theorem dX4_would_54 : decode cX4_would 54 = .ok (.invokevirtual 78, 3) := by decide +kernel
theorem dX4_would_57 : decode cX4_would 57 = .ok (.aload_n 0, 1) := by decide +kernel
theorem dX4_would_58 : decode cX4_would 58 = .ok (.iload_n 1, 1) := by decide +kernel
theorem dX4_would_59 : decode cX4_would 59 = .ok (.iload_n 2, 1) := by decide +kernel
theorem dX4_would_60 : decode cX4_would 60 = .ok (.iload_n 3, 1) := by decide +kernel
theorem dX4_would_61 : decode cX4_would 61 = .ok (.invokevirtual 203, 3) := by decide +kernel
theorem dX4_would_64 : decode cX4_would 64 = .ok (.lreturn, 1) := by decide +kernel
theorem dX4_worse_0 : decode cX4_worse 0 = .ok (.aload_n 0, 1) := by decide +kernel
theorem dX4_worse_1 : decode cX4_worse 1 = .ok (.iload_n 1, 1) := by decide +kernel
theorem dX4_worse_2 : decode cX4_worse 2 = .ok (.invokevirtual 105, 3) := by decide +kernel
theorem dX4_worse_5 : decode cX4_worse 5 = .ok (.ifCond .eq 11, 3) := by decide +kernel
theorem dX4_worse_8 : decode cX4_worse 8 = .ok (.aload_n 0, 1) := by decide +kernel
theorem dX4_worse_9 : decode cX4_worse 9 = .ok (.iload_n 2, 1) := by decide +kernel
theorem dX4_worse_10 : decode cX4_worse 10 = .ok (.invokevirtual 105, 3) := by decide +kernel
theorem dX4_worse_13 : decode cX4_worse 13 = .ok (.ifCond .ne 9, 3) := by decide +kernel
theorem dX4_worse_16 : decode cX4_worse 16 = .ok (.aload_n 0, 1) := by decide +kernel
theorem dX4_worse_17 : decode cX4_worse 17 = .ok (.iconst 1, 1) := by decide +kernel
theorem dX4_worse_18 : decode cX4_worse 18 = .ok (.invokevirtual 68, 3) := by decide +kernel
theorem dX4_worse_21 : decode cX4_worse 21 = .ok (.ireturn, 1) := by decide +kernel
theorem dX4_worse_22 : decode cX4_worse 22 = .ok (.iload_n 3, 1) := by decide +kernel
theorem dX4_worse_23 : decode cX4_worse 23 = .ok (.ldc 207, 2) := by decide +kernel
theorem dX4_worse_25 : decode cX4_worse 25 = .ok (.ldc 208, 2) := by decide +kernel
theorem dX4_worse_27 : decode cX4_worse 27 = .ok (.invokestatic 64, 3) := by decide +kernel
theorem dX4_worse_30 : decode cX4_worse 30 = .ok (.ifCond .ne 9, 3) := by decide +kernel
theorem dX4_worse_33 : decode cX4_worse 33 = .ok (.aload_n 0, 1) := by decide +kernel
theorem dX4_worse_34 : decode cX4_worse 34 = .ok (.iconst 2, 1) := by decide +kernel
theorem dX4_worse_35 : decode cX4_worse 35 = .ok (.invokevirtual 68, 3) := by decide +kernel
theorem dX4_worse_38 : decode cX4_worse 38 = .ok (.ireturn, 1) := by decide +kernel
theorem dX4_worse_39 : decode cX4_worse 39 = .ok (.iload_n 1, 1) := by decide +kernel
theorem dX4_worse_40 : decode cX4_worse 40 = .ok (.iload_n 2, 1) := by decide +kernel
theorem dX4_worse_41 : decode cX4_worse 41 = .ok (.if_icmp .ne 9, 3) := by decide +kernel
theorem dX4_worse_44 : decode cX4_worse 44 = .ok (.aload_n 0, 1) := by decide +kernel
theorem dX4_worse_45 : decode cX4_worse 45 = .ok (.iconst 5, 1) := by decide +kernel
theorem dX4_worse_46 : decode cX4_worse 46 = .ok (.invokevirtual 68, 3) := by decide +kernel
theorem dX4_worse_49 : decode cX4_worse 49 = .ok (.ireturn, 1) := by decide +kernel
theorem dX4_worse_50 : decode cX4_worse 50 = .ok (.aload_n 0, 1) := by decide +kernel
theorem dX4_worse_51 : decode cX4_worse 51 = .ok (.invokevirtual 78, 3) := by decide +kernel
theorem dX4_worse_54 : decode cX4_worse 54 = .ok (.aload_n 0, 1) := by decide +kernel
theorem dX4_worse_55 : decode cX4_worse 55 = .ok (.iload_n 1, 1) := by decide +kernel
theorem dX4_worse_56 : decode cX4_worse 56 = .ok (.iload_n 2, 1) := by decide +kernel
theorem dX4_worse_57 : decode cX4_worse 57 = .ok (.invokevirtual 200, 3) := by decide +kernel
theorem dX4_worse_60 : decode cX4_worse 60 = .ok (.istore 4, 2) := by decide +kernel
theorem dX4_worse_62 : decode cX4_worse 62 = .ok (.iconst 0, 1) := by decide +kernel
theorem dX4_worse_63 : decode cX4_worse 63 = .ok (.istore 5, 2) := by decide +kernel
theorem dX4_worse_65 : decode cX4_worse 65 = .ok (.iload 5, 2) := by decide +kernel
theorem dX4_worse_67 : decode cX4_worse 67 = .ok (.iload 4, 2) := by decide +kernel
theorem dX4_worse_69 : decode cX4_worse 69 = .ok (.if_icmp .gt 26, 3) := by decide +kernel
theorem dX4_worse_72 : decode cX4_worse 72 = .ok (.aload_n 0, 1) := by decide +kernel
theorem dX4_worse_73 : decode cX4_worse 73 = .ok (.iload_n 1, 1) := by decide +kernel
theorem dX4_worse_74 : decode cX4_worse 74 = .ok (.iload_n 2, 1) := by decide +kernel
theorem dX4_worse_75 : decode cX4_worse 75 = .ok (.iload 5, 2) := by decide +kernel
theorem dX4_worse_77 : decode cX4_worse 77 = .ok (.invokevirtual 203, 3) := by decide +kernel
theorem dX4_worse_80 : decode cX4_worse 80 = .ok (.iload_n 3, 1) := by decide +kernel
theorem dX4_worse_81 : decode cX4_worse 81 = .ok (.i2l, 1) := by decide +kernel
theorem dX4_worse_82 : decode cX4_worse 82 = .ok (.lcmp, 1) := by decide +kernel
theorem dX4_worse_83 : decode cX4_worse 83 = .ok (.ifCond .ge 6, 3) := by decide +kernel
theorem dX4_worse_86 : decode cX4_worse 86 = .ok (.iload 5, 2) := by decide +kernel
theorem dX4_worse_88 : decode cX4_worse 88 = .ok (.ireturn, 1) := by decide +kernel
theorem dX4_worse_89 : decode cX4_worse 89 = .ok (.iinc 5 1, 3) := by decide +kernel
theorem dX4_worse_92 : decode cX4_worse 92 = .ok (.goto (-27), 3) := by decide +kernel
theorem dX4_worse_95 : decode cX4_worse 95 = .ok (.bipush (-2), 2) := by decide +kernel
theorem dX4_worse_97 : decode cX4_worse 97 = .ok (.ireturn, 1) := by decide +kernel
theorem dX4_judged_0 : decode cX4_judged 0 = .ok (.aload_n 0, 1) := by decide +kernel
theorem dX4_judged_1 : decode cX4_judged 1 = .ok (.iload_n 1, 1) := by decide +kernel
theorem dX4_judged_2 : decode cX4_judged 2 = .ok (.invokevirtual 105, 3) := by decide +kernel
theorem dX4_judged_5 : decode cX4_judged 5 = .ok (.ifCond .eq 13, 3) := by decide +kernel
theorem dX4_judged_8 : decode cX4_judged 8 = .ok (.iload 4, 2) := by decide +kernel
theorem dX4_judged_10 : decode cX4_judged 10 = .ok (.iconst 0, 1) := by decide +kernel
theorem dX4_judged_11 : decode cX4_judged 11 = .ok (.iconst 2, 1) := by decide +kernel
theorem dX4_judged_12 : decode cX4_judged 12 = .ok (.invokestatic 64, 3) := by decide +kernel
theorem dX4_judged_15 : decode cX4_judged 15 = .ok (.ifCond .ne 9, 3) := by decide +kernel
theorem dX4_judged_18 : decode cX4_judged 18 = .ok (.aload_n 0, 1) := by decide +kernel
theorem dX4_judged_19 : decode cX4_judged 19 = .ok (.iconst 1, 1) := by decide +kernel
theorem dX4_judged_20 : decode cX4_judged 20 = .ok (.invokevirtual 180, 3) := by decide +kernel
theorem dX4_judged_23 : decode cX4_judged 23 = .ok (.lreturn, 1) := by decide +kernel
theorem dX4_judged_24 : decode cX4_judged 24 = .ok (.iload_n 2, 1) := by decide +kernel
theorem dX4_judged_25 : decode cX4_judged 25 = .ok (.iconst 1, 1) := by decide +kernel
theorem dX4_judged_26 : decode cX4_judged 26 = .ok (.ldc 209, 2) := by decide +kernel
theorem dX4_judged_28 : decode cX4_judged 28 = .ok (.invokestatic 64, 3) := by decide +kernel
theorem dX4_judged_31 : decode cX4_judged 31 = .ok (.ifCond .eq 13, 3) := by decide +kernel
theorem dX4_judged_34 : decode cX4_judged 34 = .ok (.iload_n 3, 1) := by decide +kernel
theorem dX4_judged_35 : decode cX4_judged 35 = .ok (.iconst 1, 1) := by decide +kernel
theorem dX4_judged_36 : decode cX4_judged 36 = .ok (.bipush 50, 2) := by decide +kernel
theorem dX4_judged_38 : decode cX4_judged 38 = .ok (.invokestatic 64, 3) := by decide +kernel
theorem dX4_judged_41 : decode cX4_judged 41 = .ok (.ifCond .ne 9, 3) := by decide +kernel
theorem dX4_judged_44 : decode cX4_judged 44 = .ok (.aload_n 0, 1) := by decide +kernel
theorem dX4_judged_45 : decode cX4_judged 45 = .ok (.iconst 2, 1) := by decide +kernel
theorem dX4_judged_46 : decode cX4_judged 46 = .ok (.invokevirtual 180, 3) := by decide +kernel
theorem dX4_judged_49 : decode cX4_judged 49 = .ok (.lreturn, 1) := by decide +kernel
theorem dX4_judged_50 : decode cX4_judged 50 = .ok (.aload_n 0, 1) := by decide +kernel
theorem dX4_judged_51 : decode cX4_judged 51 = .ok (.invokevirtual 78, 3) := by decide +kernel
theorem dX4_judged_54 : decode cX4_judged 54 = .ok (.aload_n 0, 1) := by decide +kernel
theorem dX4_judged_55 : decode cX4_judged 55 = .ok (.getfield 26, 3) := by decide +kernel
theorem dX4_judged_58 : decode cX4_judged 58 = .ok (.aload_n 0, 1) := by decide +kernel
theorem dX4_judged_59 : decode cX4_judged 59 = .ok (.getfield 19, 3) := by decide +kernel
theorem dX4_judged_62 : decode cX4_judged 62 = .ok (.invokevirtual 210, 3) := by decide +kernel
theorem dX4_judged_65 : decode cX4_judged 65 = .ok (.iload_n 2, 1) := by decide +kernel
theorem dX4_judged_66 : decode cX4_judged 66 = .ok (.i2l, 1) := by decide +kernel
theorem dX4_judged_67 : decode cX4_judged 67 = .ok (.lstore 5, 2) := by decide +kernel
theorem dX4_judged_69 : decode cX4_judged 69 = .ok (.lconst 0, 1) := by decide +kernel
theorem dX4_judged_70 : decode cX4_judged 70 = .ok (.lstore 7, 2) := by decide +kernel
theorem dX4_judged_72 : decode cX4_judged 72 = .ok (.lconst 0, 1) := by decide +kernel
theorem dX4_judged_73 : decode cX4_judged 73 = .ok (.lstore 9, 2) := by decide +kernel
theorem dX4_judged_75 : decode cX4_judged 75 = .ok (.lconst 0, 1) := by decide +kernel
theorem dX4_judged_76 : decode cX4_judged 76 = .ok (.lstore 11, 2) := by decide +kernel
theorem dX4_judged_78 : decode cX4_judged 78 = .ok (.iconst 0, 1) := by decide +kernel
theorem dX4_judged_79 : decode cX4_judged 79 = .ok (.istore 13, 2) := by decide +kernel
theorem dX4_judged_81 : decode cX4_judged 81 = .ok (.iload 13, 2) := by decide +kernel
theorem dX4_judged_83 : decode cX4_judged 83 = .ok (.iload_n 3, 1) := by decide +kernel
theorem dX4_judged_84 : decode cX4_judged 84 = .ok (.if_icmp .ge 85, 3) := by decide +kernel
theorem dX4_judged_87 : decode cX4_judged 87 = .ok (.aload_n 0, 1) := by decide +kernel
theorem dX4_judged_88 : decode cX4_judged 88 = .ok (.getfield 26, 3) := by decide +kernel
theorem dX4_judged_91 : decode cX4_judged 91 = .ok (.getfield 213, 3) := by decide +kernel
theorem dX4_judged_94 : decode cX4_judged 94 = .ok (.lload 5, 2) := by decide +kernel
theorem dX4_judged_96 : decode cX4_judged 96 = .ok (.invokevirtual 214, 3) := by decide +kernel
theorem dX4_judged_99 : decode cX4_judged 99 = .ok (.lstore 5, 2) := by decide +kernel
theorem dX4_judged_101 : decode cX4_judged 101 = .ok (.aload_n 0, 1) := by decide +kernel
theorem dX4_judged_102 : decode cX4_judged 102 = .ok (.getfield 26, 3) := by decide +kernel
theorem dX4_judged_105 : decode cX4_judged 105 = .ok (.invokevirtual 218, 3) := by decide +kernel
theorem dX4_judged_108 : decode cX4_judged 108 = .ok (.aload_n 0, 1) := by decide +kernel
theorem dX4_judged_109 : decode cX4_judged 109 = .ok (.getfield 26, 3) := by decide +kernel
theorem dX4_judged_112 : decode cX4_judged 112 = .ok (.iload_n 1, 1) := by decide +kernel
theorem dX4_judged_113 : decode cX4_judged 113 = .ok (.invokevirtual 183, 3) := by decide +kernel
theorem dX4_judged_116 : decode cX4_judged 116 = .ok (.lstore 14, 2) := by decide +kernel
theorem dX4_judged_118 : decode cX4_judged 118 = .ok (.lload 7, 2) := by decide +kernel
theorem dX4_judged_120 : decode cX4_judged 120 = .ok (.lload 14, 2) := by decide +kernel
theorem dX4_judged_122 : decode cX4_judged 122 = .ok (.ladd, 1) := by decide +kernel
theorem dX4_judged_123 : decode cX4_judged 123 = .ok (.lstore 7, 2) := by decide +kernel
theorem dX4_judged_125 : decode cX4_judged 125 = .ok (.iload 13, 2) := by decide +kernel
theorem dX4_judged_127 : decode cX4_judged 127 = .ok (.ifCond .ne 8, 3) := by decide +kernel
theorem dX4_judged_130 : decode cX4_judged 130 = .ok (.lload 14, 2) := by decide +kernel
theorem dX4_judged_132 : decode cX4_judged 132 = .ok (.goto 10, 3) := by decide +kernel
theorem dX4_judged_135 : decode cX4_judged 135 = .ok (.lload 9, 2) := by decide +kernel
theorem dX4_judged_137 : decode cX4_judged 137 = .ok (.lload 14, 2) := by decide +kernel
theorem dX4_judged_139 : decode cX4_judged 139 = .ok (.invokestatic 221, 3) := by decide +kernel
theorem dX4_judged_142 : decode cX4_judged 142 = .ok (.lstore 9, 2) := by decide +kernel
theorem dX4_judged_144 : decode cX4_judged 144 = .ok (.iload 13, 2) := by decide +kernel
theorem dX4_judged_146 : decode cX4_judged 146 = .ok (.ifCond .ne 8, 3) := by decide +kernel
theorem dX4_judged_149 : decode cX4_judged 149 = .ok (.lload 14, 2) := by decide +kernel
theorem dX4_judged_151 : decode cX4_judged 151 = .ok (.goto 10, 3) := by decide +kernel
theorem dX4_judged_154 : decode cX4_judged 154 = .ok (.lload 11, 2) := by decide +kernel
theorem dX4_judged_156 : decode cX4_judged 156 = .ok (.lload 14, 2) := by decide +kernel
theorem dX4_judged_158 : decode cX4_judged 158 = .ok (.invokestatic 192, 3) := by decide +kernel
theorem dX4_judged_161 : decode cX4_judged 161 = .ok (.lstore 11, 2) := by decide +kernel
theorem dX4_judged_163 : decode cX4_judged 163 = .ok (.iinc 13 1, 3) := by decide +kernel
theorem dX4_judged_166 : decode cX4_judged 166 = .ok (.goto (-85), 3) := by decide +kernel
theorem dX4_judged_169 : decode cX4_judged 169 = .ok (.iload 4, 2) := by decide +kernel
theorem dX4_judged_171 : decode cX4_judged 171 = .ok (.ifCond .ne 6, 3) := by decide +kernel
theorem dX4_judged_174 : decode cX4_judged 174 = .ok (.lload 7, 2) := by decide +kernel
theorem dX4_judged_176 : decode cX4_judged 176 = .ok (.lreturn, 1) := by decide +kernel
theorem dX4_judged_177 : decode cX4_judged 177 = .ok (.iload 4, 2) := by decide +kernel
theorem dX4_judged_179 : decode cX4_judged 179 = .ok (.iconst 1, 1) := by decide +kernel
theorem dX4_judged_180 : decode cX4_judged 180 = .ok (.if_icmp .ne 8, 3) := by decide +kernel
theorem dX4_judged_183 : decode cX4_judged 183 = .ok (.lload 9, 2) := by decide +kernel
theorem dX4_judged_185 : decode cX4_judged 185 = .ok (.goto 5, 3) := by decide +kernel
theorem dX4_judged_188 : decode cX4_judged 188 = .ok (.lload 11, 2) := by decide +kernel
theorem dX4_judged_190 : decode cX4_judged 190 = .ok (.lreturn, 1) := by decide +kernel
theorem dX4_all_0 : decode cX4_all 0 = .ok (.aload_n 0, 1) := by decide +kernel
theorem dX4_all_1 : decode cX4_all 1 = .ok (.invokevirtual 94, 3) := by decide +kernel
theorem dX4_all_4 : decode cX4_all 4 = .ok (.ifCond .ne 9, 3) := by decide +kernel
theorem dX4_all_7 : decode cX4_all 7 = .ok (.aload_n 0, 1) := by decide +kernel
theorem dX4_all_8 : decode cX4_all 8 = .ok (.iconst 1, 1) := by decide +kernel
theorem dX4_all_9 : decode cX4_all 9 = .ok (.invokevirtual 180, 3) := by decide +kernel
theorem dX4_all_12 : decode cX4_all 12 = .ok (.lreturn, 1) := by decide +kernel
theorem dX4_all_13 : decode cX4_all 13 = .ok (.aload_n 0, 1) := by decide +kernel
theorem dX4_all_14 : decode cX4_all 14 = .ok (.invokevirtual 78, 3) := by decide +kernel
theorem dX4_all_17 : decode cX4_all 17 = .ok (.aload_n 0, 1) := by decide +kernel
theorem dX4_all_18 : decode cX4_all 18 = .ok (.invokevirtual 126, 3) := by decide +kernel
theorem dX4_all_21 : decode cX4_all 21 = .ok (.lconst 0, 1) := by decide +kernel
theorem dX4_all_22 : decode cX4_all 22 = .ok (.lstore_n 1, 1) := by decide +kernel
theorem dX4_all_23 : decode cX4_all 23 = .ok (.iconst 0, 1) := by decide +kernel
theorem dX4_all_24 : decode cX4_all 24 = .ok (.istore_n 3, 1) := by decide +kernel
theorem dX4_all_25 : decode cX4_all 25 = .ok (.iload_n 3, 1) := by decide +kernel
theorem dX4_all_26 : decode cX4_all 26 = .ok (.aload_n 0, 1) := by decide +kernel
theorem dX4_all_27 : decode cX4_all 27 = .ok (.getfield 19, 3) := by decide +kernel
theorem dX4_all_30 : decode cX4_all 30 = .ok (.getfield 91, 3) := by decide +kernel
theorem dX4_all_33 : decode cX4_all 33 = .ok (.if_icmp .ge 20, 3) := by decide +kernel
theorem dX4_all_36 : decode cX4_all 36 = .ok (.lload_n 1, 1) := by decide +kernel
theorem dX4_all_37 : decode cX4_all 37 = .ok (.aload_n 0, 1) := by decide +kernel
theorem dX4_all_38 : decode cX4_all 38 = .ok (.getfield 26, 3) := by decide +kernel
theorem dX4_all_41 : decode cX4_all 41 = .ok (.iload_n 3, 1) := by decide +kernel
theorem dX4_all_42 : decode cX4_all 42 = .ok (.invokevirtual 183, 3) := by decide +kernel
theorem dX4_all_45 : decode cX4_all 45 = .ok (.ladd, 1) := by decide +kernel
theorem dX4_all_46 : decode cX4_all 46 = .ok (.lstore_n 1, 1) := by decide +kernel
theorem dX4_all_47 : decode cX4_all 47 = .ok (.iinc 3 1, 3) := by decide +kernel
theorem dX4_all_50 : decode cX4_all 50 = .ok (.goto (-25), 3) := by decide +kernel
theorem dX4_all_53 : decode cX4_all 53 = .ok (.iconst 0, 1) := by decide +kernel
theorem dX4_all_54 : decode cX4_all 54 = .ok (.istore_n 3, 1) := by decide +kernel
theorem dX4_all_55 : decode cX4_all 55 = .ok (.iload_n 3, 1) := by decide +kernel
theorem dX4_all_56 : decode cX4_all 56 = .ok (.aload_n 0, 1) := by decide +kernel
theorem dX4_all_57 : decode cX4_all 57 = .ok (.getfield 19, 3) := by decide +kernel
theorem dX4_all_60 : decode cX4_all 60 = .ok (.getfield 98, 3) := by decide +kernel
theorem dX4_all_63 : decode cX4_all 63 = .ok (.if_icmp .ge 20, 3) := by decide +kernel
theorem dX4_all_66 : decode cX4_all 66 = .ok (.lload_n 1, 1) := by decide +kernel
theorem dX4_all_67 : decode cX4_all 67 = .ok (.aload_n 0, 1) := by decide +kernel
theorem dX4_all_68 : decode cX4_all 68 = .ok (.getfield 26, 3) := by decide +kernel
theorem dX4_all_71 : decode cX4_all 71 = .ok (.iload_n 3, 1) := by decide +kernel
theorem dX4_all_72 : decode cX4_all 72 = .ok (.invokevirtual 168, 3) := by decide +kernel
theorem dX4_all_75 : decode cX4_all 75 = .ok (.ladd, 1) := by decide +kernel
theorem dX4_all_76 : decode cX4_all 76 = .ok (.lstore_n 1, 1) := by decide +kernel
theorem dX4_all_77 : decode cX4_all 77 = .ok (.iinc 3 1, 3) := by decide +kernel
theorem dX4_all_80 : decode cX4_all 80 = .ok (.goto (-25), 3) := by decide +kernel
theorem dX4_all_83 : decode cX4_all 83 = .ok (.lload_n 1, 1) := by decide +kernel
theorem dX4_all_84 : decode cX4_all 84 = .ok (.lreturn, 1) := by decide +kernel
theorem dX4_shift_0 : decode cX4_shift 0 = .ok (.aload_n 0, 1) := by decide +kernel
theorem dX4_shift_1 : decode cX4_shift 1 = .ok (.iload_n 1, 1) := by decide +kernel
theorem dX4_shift_2 : decode cX4_shift 2 = .ok (.invokevirtual 105, 3) := by decide +kernel
theorem dX4_shift_5 : decode cX4_shift 5 = .ok (.ifCond .eq 11, 3) := by decide +kernel
theorem dX4_shift_8 : decode cX4_shift 8 = .ok (.aload_n 0, 1) := by decide +kernel
theorem dX4_shift_9 : decode cX4_shift 9 = .ok (.iload_n 2, 1) := by decide +kernel
theorem dX4_shift_10 : decode cX4_shift 10 = .ok (.invokevirtual 105, 3) := by decide +kernel
theorem dX4_shift_13 : decode cX4_shift 13 = .ok (.ifCond .ne 9, 3) := by decide +kernel
theorem dX4_shift_16 : decode cX4_shift 16 = .ok (.aload_n 0, 1) := by decide +kernel
theorem dX4_shift_17 : decode cX4_shift 17 = .ok (.iconst 1, 1) := by decide +kernel
theorem dX4_shift_18 : decode cX4_shift 18 = .ok (.invokevirtual 68, 3) := by decide +kernel
theorem dX4_shift_21 : decode cX4_shift 21 = .ok (.ireturn, 1) := by decide +kernel
theorem dX4_shift_22 : decode cX4_shift 22 = .ok (.iload_n 3, 1) := by decide +kernel
theorem dX4_shift_23 : decode cX4_shift 23 = .ok (.iconst 1, 1) := by decide +kernel
theorem dX4_shift_24 : decode cX4_shift 24 = .ok (.bipush 10, 2) := by decide +kernel
theorem dX4_shift_26 : decode cX4_shift 26 = .ok (.invokestatic 64, 3) := by decide +kernel
theorem dX4_shift_29 : decode cX4_shift 29 = .ok (.ifCond .ne 9, 3) := by decide +kernel
theorem dX4_shift_32 : decode cX4_shift 32 = .ok (.aload_n 0, 1) := by decide +kernel
theorem dX4_shift_33 : decode cX4_shift 33 = .ok (.iconst 2, 1) := by decide +kernel
theorem dX4_shift_34 : decode cX4_shift 34 = .ok (.invokevirtual 68, 3) := by decide +kernel
theorem dX4_shift_37 : decode cX4_shift 37 = .ok (.ireturn, 1) := by decide +kernel
theorem dX4_shift_38 : decode cX4_shift 38 = .ok (.iload_n 1, 1) := by decide +kernel
theorem dX4_shift_39 : decode cX4_shift 39 = .ok (.iload_n 2, 1) := by decide +kernel
theorem dX4_shift_40 : decode cX4_shift 40 = .ok (.if_icmp .eq 16, 3) := by decide +kernel
theorem dX4_shift_43 : decode cX4_shift 43 = .ok (.aload_n 0, 1) := by decide +kernel
theorem dX4_shift_44 : decode cX4_shift 44 = .ok (.getfield 19, 3) := by decide +kernel
theorem dX4_shift_47 : decode cX4_shift 47 = .ok (.iload_n 1, 1) := by decide +kernel
theorem dX4_shift_48 : decode cX4_shift 48 = .ok (.iconst 1, 1) := by decide +kernel
theorem dX4_shift_49 : decode cX4_shift 49 = .ok (.invokevirtual 112, 3) := by decide +kernel
theorem dX4_shift_52 : decode cX4_shift 52 = .ok (.iload_n 3, 1) := by decide +kernel
theorem dX4_shift_53 : decode cX4_shift 53 = .ok (.if_icmp .ge 9, 3) := by decide +kernel
theorem dX4_shift_56 : decode cX4_shift 56 = .ok (.aload_n 0, 1) := by decide +kernel
theorem dX4_shift_57 : decode cX4_shift 57 = .ok (.iconst 5, 1) := by decide +kernel
theorem dX4_shift_58 : decode cX4_shift 58 = .ok (.invokevirtual 68, 3) := by decide +kernel
theorem dX4_shift_61 : decode cX4_shift 61 = .ok (.ireturn, 1) := by decide +kernel
theorem dX4_shift_62 : decode cX4_shift 62 = .ok (.aload_n 0, 1) := by decide +kernel
theorem dX4_shift_63 : decode cX4_shift 63 = .ok (.invokevirtual 224, 3) := by decide +kernel
theorem dX4_shift_66 : decode cX4_shift 66 = .ok (.aload_n 0, 1) := by decide +kernel
theorem dX4_shift_67 : decode cX4_shift 67 = .ok (.getfield 19, 3) := by decide +kernel
theorem dX4_shift_70 : decode cX4_shift 70 = .ok (.iload_n 1, 1) := by decide +kernel
theorem dX4_shift_71 : decode cX4_shift 71 = .ok (.iconst 1, 1) := by decide +kernel
theorem dX4_shift_72 : decode cX4_shift 72 = .ok (.aload_n 0, 1) := by decide +kernel
theorem dX4_shift_73 : decode cX4_shift 73 = .ok (.getfield 19, 3) := by decide +kernel
theorem dX4_shift_76 : decode cX4_shift 76 = .ok (.iload_n 1, 1) := by decide +kernel
theorem dX4_shift_77 : decode cX4_shift 77 = .ok (.iconst 1, 1) := by decide +kernel
theorem dX4_shift_78 : decode cX4_shift 78 = .ok (.invokevirtual 112, 3) := by decide +kernel
theorem dX4_shift_81 : decode cX4_shift 81 = .ok (.iload_n 3, 1) := by decide +kernel
theorem dX4_shift_82 : decode cX4_shift 82 = .ok (.isub, 1) := by decide +kernel
theorem dX4_shift_83 : decode cX4_shift 83 = .ok (.invokevirtual 227, 3) := by decide +kernel
theorem dX4_shift_86 : decode cX4_shift 86 = .ok (.aload_n 0, 1) := by decide +kernel
theorem dX4_shift_87 : decode cX4_shift 87 = .ok (.getfield 19, 3) := by decide +kernel
theorem dX4_shift_90 : decode cX4_shift 90 = .ok (.iload_n 2, 1) := by decide +kernel
theorem dX4_shift_91 : decode cX4_shift 91 = .ok (.iconst 1, 1) := by decide +kernel
theorem dX4_shift_92 : decode cX4_shift 92 = .ok (.aload_n 0, 1) := by decide +kernel
theorem dX4_shift_93 : decode cX4_shift 93 = .ok (.getfield 19, 3) := by decide +kernel
theorem dX4_shift_96 : decode cX4_shift 96 = .ok (.iload_n 2, 1) := by decide +kernel
theorem dX4_shift_97 : decode cX4_shift 97 = .ok (.iconst 1, 1) := by decide +kernel
theorem dX4_shift_98 : decode cX4_shift 98 = .ok (.invokevirtual 112, 3) := by decide +kernel
theorem dX4_shift_101 : decode cX4_shift 101 = .ok (.iload_n 3, 1) := by decide +kernel
theorem dX4_shift_102 : decode cX4_shift 102 = .ok (.iadd, 1) := by decide +kernel
theorem dX4_shift_103 : decode cX4_shift 103 = .ok (.invokevirtual 227, 3) := by decide +kernel
theorem dX4_shift_106 : decode cX4_shift 106 = .ok (.aload_n 0, 1) := by decide +kernel
theorem dX4_shift_107 : decode cX4_shift 107 = .ok (.getfield 19, 3) := by decide +kernel
theorem dX4_shift_110 : decode cX4_shift 110 = .ok (.iload_n 2, 1) := by decide +kernel
theorem dX4_shift_111 : decode cX4_shift 111 = .ok (.iconst 1, 1) := by decide +kernel
theorem dX4_shift_112 : decode cX4_shift 112 = .ok (.invokevirtual 112, 3) := by decide +kernel
theorem dX4_shift_115 : decode cX4_shift 115 = .ok (.ireturn, 1) := by decide +kernel
theorem dX4_file_0 : decode cX4_file 0 = .ok (.aload_n 0, 1) := by decide +kernel
theorem dX4_file_1 : decode cX4_file 1 = .ok (.invokevirtual 94, 3) := by decide +kernel
theorem dX4_file_4 : decode cX4_file 4 = .ok (.ifCond .eq 24, 3) := by decide +kernel
theorem dX4_file_7 : decode cX4_file 7 = .ok (.iload_n 1, 1) := by decide +kernel
theorem dX4_file_8 : decode cX4_file 8 = .ok (.iconst 0, 1) := by decide +kernel
theorem dX4_file_9 : decode cX4_file 9 = .ok (.iconst 2, 1) := by decide +kernel
theorem dX4_file_10 : decode cX4_file 10 = .ok (.invokestatic 64, 3) := by decide +kernel
theorem dX4_file_13 : decode cX4_file 13 = .ok (.ifCond .eq 15, 3) := by decide +kernel
theorem dX4_file_16 : decode cX4_file 16 = .ok (.iload_n 1, 1) := by decide +kernel
theorem dX4_file_17 : decode cX4_file 17 = .ok (.ifCond .ne 17, 3) := by decide +kernel
theorem dX4_file_20 : decode cX4_file 20 = .ok (.aload_n 0, 1) := by decide +kernel
theorem dX4_file_21 : decode cX4_file 21 = .ok (.iload_n 2, 1) := by decide +kernel
theorem dX4_file_22 : decode cX4_file 22 = .ok (.invokevirtual 105, 3) := by decide +kernel
theorem dX4_file_25 : decode cX4_file 25 = .ok (.ifCond .ne 9, 3) := by decide +kernel
theorem dX4_file_28 : decode cX4_file 28 = .ok (.aload_n 0, 1) := by decide +kernel
theorem dX4_file_29 : decode cX4_file 29 = .ok (.iconst 1, 1) := by decide +kernel
theorem dX4_file_30 : decode cX4_file 30 = .ok (.invokevirtual 68, 3) := by decide +kernel
theorem dX4_file_33 : decode cX4_file 33 = .ok (.ireturn, 1) := by decide +kernel
theorem dX4_file_34 : decode cX4_file 34 = .ok (.iload_n 3, 1) := by decide +kernel
theorem dX4_file_35 : decode cX4_file 35 = .ok (.iconst 1, 1) := by decide +kernel
theorem dX4_file_36 : decode cX4_file 36 = .ok (.ldc 125, 2) := by decide +kernel
theorem dX4_file_38 : decode cX4_file 38 = .ok (.invokestatic 64, 3) := by decide +kernel
theorem dX4_file_41 : decode cX4_file 41 = .ok (.ifCond .eq 15, 3) := by decide +kernel
theorem dX4_file_44 : decode cX4_file 44 = .ok (.iload 4, 2) := by decide +kernel
theorem dX4_file_46 : decode cX4_file 46 = .ok (.iconst 0, 1) := by decide +kernel
theorem dX4_file_47 : decode cX4_file 47 = .ok (.sipush 999, 3) := by decide +kernel
theorem dX4_file_50 : decode cX4_file 50 = .ok (.invokestatic 64, 3) := by decide +kernel
theorem dX4_file_53 : decode cX4_file 53 = .ok (.ifCond .ne 9, 3) := by decide +kernel
theorem dX4_file_56 : decode cX4_file 56 = .ok (.aload_n 0, 1) := by decide +kernel
theorem dX4_file_57 : decode cX4_file 57 = .ok (.iconst 2, 1) := by decide +kernel
theorem dX4_file_58 : decode cX4_file 58 = .ok (.invokevirtual 68, 3) := by decide +kernel
theorem dX4_file_61 : decode cX4_file 61 = .ok (.ireturn, 1) := by decide +kernel
theorem dX4_file_62 : decode cX4_file 62 = .ok (.aload_n 0, 1) := by decide +kernel
theorem dX4_file_63 : decode cX4_file 63 = .ok (.getfield 19, 3) := by decide +kernel
theorem dX4_file_66 : decode cX4_file 66 = .ok (.getfield 98, 3) := by decide +kernel
theorem dX4_file_69 : decode cX4_file 69 = .ok (.bipush 12, 2) := by decide +kernel
theorem dX4_file_71 : decode cX4_file 71 = .ok (.if_icmp .lt 9, 3) := by decide +kernel
theorem dX4_file_74 : decode cX4_file 74 = .ok (.aload_n 0, 1) := by decide +kernel
theorem dX4_file_75 : decode cX4_file 75 = .ok (.iconst 3, 1) := by decide +kernel
theorem dX4_file_76 : decode cX4_file 76 = .ok (.invokevirtual 68, 3) := by decide +kernel
theorem dX4_file_79 : decode cX4_file 79 = .ok (.ireturn, 1) := by decide +kernel
theorem dX4_file_80 : decode cX4_file 80 = .ok (.aload_n 0, 1) := by decide +kernel
theorem dX4_file_81 : decode cX4_file 81 = .ok (.invokevirtual 224, 3) := by decide +kernel
theorem dX4_file_84 : decode cX4_file 84 = .ok (.aload_n 0, 1) := by decide +kernel
theorem dX4_file_85 : decode cX4_file 85 = .ok (.getfield 19, 3) := by decide +kernel
theorem dX4_file_88 : decode cX4_file 88 = .ok (.iload_n 1, 1) := by decide +kernel
theorem dX4_file_89 : decode cX4_file 89 = .ok (.iload_n 2, 1) := by decide +kernel
theorem dX4_file_90 : decode cX4_file 90 = .ok (.iload_n 3, 1) := by decide +kernel
theorem dX4_file_91 : decode cX4_file 91 = .ok (.iload 4, 2) := by decide +kernel
theorem dX4_file_93 : decode cX4_file 93 = .ok (.invokevirtual 231, 3) := by decide +kernel
theorem dX4_file_96 : decode cX4_file 96 = .ok (.aload_n 0, 1) := by decide +kernel
theorem dX4_file_97 : decode cX4_file 97 = .ok (.getfield 19, 3) := by decide +kernel
theorem dX4_file_100 : decode cX4_file 100 = .ok (.getfield 98, 3) := by decide +kernel
theorem dX4_file_103 : decode cX4_file 103 = .ok (.iconst 1, 1) := by decide +kernel
theorem dX4_file_104 : decode cX4_file 104 = .ok (.isub, 1) := by decide +kernel
theorem dX4_file_105 : decode cX4_file 105 = .ok (.ireturn, 1) := by decide +kernel
theorem dX4_withdraw_0 : decode cX4_withdraw 0 = .ok (.aload_n 0, 1) := by decide +kernel
theorem dX4_withdraw_1 : decode cX4_withdraw 1 = .ok (.iload_n 1, 1) := by decide +kernel
theorem dX4_withdraw_2 : decode cX4_withdraw 2 = .ok (.invokevirtual 116, 3) := by decide +kernel
theorem dX4_withdraw_5 : decode cX4_withdraw 5 = .ok (.ifCond .ne 9, 3) := by decide +kernel
theorem dX4_withdraw_8 : decode cX4_withdraw 8 = .ok (.aload_n 0, 1) := by decide +kernel
theorem dX4_withdraw_9 : decode cX4_withdraw 9 = .ok (.iconst 1, 1) := by decide +kernel
theorem dX4_withdraw_10 : decode cX4_withdraw 10 = .ok (.invokevirtual 68, 3) := by decide +kernel
theorem dX4_withdraw_13 : decode cX4_withdraw 13 = .ok (.ireturn, 1) := by decide +kernel
theorem dX4_withdraw_14 : decode cX4_withdraw 14 = .ok (.aload_n 0, 1) := by decide +kernel
theorem dX4_withdraw_15 : decode cX4_withdraw 15 = .ok (.invokevirtual 224, 3) := by decide +kernel
theorem dX4_withdraw_18 : decode cX4_withdraw 18 = .ok (.aload_n 0, 1) := by decide +kernel
theorem dX4_withdraw_19 : decode cX4_withdraw 19 = .ok (.getfield 19, 3) := by decide +kernel
theorem dX4_withdraw_22 : decode cX4_withdraw 22 = .ok (.iload_n 1, 1) := by decide +kernel
theorem dX4_withdraw_23 : decode cX4_withdraw 23 = .ok (.invokevirtual 235, 3) := by decide +kernel
theorem dX4_withdraw_26 : decode cX4_withdraw 26 = .ok (.aload_n 0, 1) := by decide +kernel
theorem dX4_withdraw_27 : decode cX4_withdraw 27 = .ok (.getfield 19, 3) := by decide +kernel
theorem dX4_withdraw_30 : decode cX4_withdraw 30 = .ok (.getfield 98, 3) := by decide +kernel
theorem dX4_withdraw_33 : decode cX4_withdraw 33 = .ok (.ireturn, 1) := by decide +kernel
theorem dX4_become_0 : decode cX4_become 0 = .ok (.aload_n 0, 1) := by decide +kernel
theorem dX4_become_1 : decode cX4_become 1 = .ok (.iload_n 1, 1) := by decide +kernel
theorem dX4_become_2 : decode cX4_become 2 = .ok (.invokevirtual 105, 3) := by decide +kernel
theorem dX4_become_5 : decode cX4_become 5 = .ok (.ifCond .eq 17, 3) := by decide +kernel
theorem dX4_become_8 : decode cX4_become 8 = .ok (.iload_n 2, 1) := by decide +kernel
theorem dX4_become_9 : decode cX4_become 9 = .ok (.iconst 0, 1) := by decide +kernel
theorem dX4_become_10 : decode cX4_become 10 = .ok (.iconst 5, 1) := by decide +kernel
theorem dX4_become_11 : decode cX4_become 11 = .ok (.invokestatic 64, 3) := by decide +kernel
theorem dX4_become_14 : decode cX4_become 14 = .ok (.ifCond .eq 8, 3) := by decide +kernel
theorem dX4_become_17 : decode cX4_become 17 = .ok (.iload_n 2, 1) := by decide +kernel
theorem dX4_become_18 : decode cX4_become 18 = .ok (.iconst 1, 1) := by decide +kernel
theorem dX4_become_19 : decode cX4_become 19 = .ok (.if_icmp .ne 9, 3) := by decide +kernel
theorem dX4_become_22 : decode cX4_become 22 = .ok (.aload_n 0, 1) := by decide +kernel
theorem dX4_become_23 : decode cX4_become 23 = .ok (.iconst 1, 1) := by decide +kernel
theorem dX4_become_24 : decode cX4_become 24 = .ok (.invokevirtual 68, 3) := by decide +kernel
theorem dX4_become_27 : decode cX4_become 27 = .ok (.ireturn, 1) := by decide +kernel
theorem dX4_become_28 : decode cX4_become 28 = .ok (.iload_n 3, 1) := by decide +kernel
theorem dX4_become_29 : decode cX4_become 29 = .ok (.getstatic 238, 3) := by decide +kernel
theorem dX4_become_32 : decode cX4_become 32 = .ok (.iload_n 2, 1) := by decide +kernel
theorem dX4_become_33 : decode cX4_become 33 = .ok (.iaload, 1) := by decide +kernel
theorem dX4_become_34 : decode cX4_become 34 = .ok (.getstatic 241, 3) := by decide +kernel
theorem dX4_become_37 : decode cX4_become 37 = .ok (.iload_n 2, 1) := by decide +kernel
theorem dX4_become_38 : decode cX4_become 38 = .ok (.iaload, 1) := by decide +kernel
theorem dX4_become_39 : decode cX4_become 39 = .ok (.invokestatic 64, 3) := by decide +kernel
theorem dX4_become_42 : decode cX4_become 42 = .ok (.ifCond .ne 9, 3) := by decide +kernel
theorem dX4_become_45 : decode cX4_become 45 = .ok (.aload_n 0, 1) := by decide +kernel
theorem dX4_become_46 : decode cX4_become 46 = .ok (.iconst 2, 1) := by decide +kernel
theorem dX4_become_47 : decode cX4_become 47 = .ok (.invokevirtual 68, 3) := by decide +kernel
theorem dX4_become_50 : decode cX4_become 50 = .ok (.ireturn, 1) := by decide +kernel
theorem dX4_become_51 : decode cX4_become 51 = .ok (.aload_n 0, 1) := by decide +kernel
theorem dX4_become_52 : decode cX4_become 52 = .ok (.invokevirtual 224, 3) := by decide +kernel
theorem dX4_become_55 : decode cX4_become 55 = .ok (.aload_n 0, 1) := by decide +kernel
theorem dX4_become_56 : decode cX4_become 56 = .ok (.getfield 19, 3) := by decide +kernel
theorem dX4_become_59 : decode cX4_become 59 = .ok (.iload_n 1, 1) := by decide +kernel
theorem dX4_become_60 : decode cX4_become 60 = .ok (.iload_n 2, 1) := by decide +kernel
theorem dX4_become_61 : decode cX4_become 61 = .ok (.invokevirtual 112, 3) := by decide +kernel
theorem dX4_become_64 : decode cX4_become 64 = .ok (.istore 4, 2) := by decide +kernel
theorem dX4_become_66 : decode cX4_become 66 = .ok (.aload_n 0, 1) := by decide +kernel
theorem dX4_become_67 : decode cX4_become 67 = .ok (.getfield 19, 3) := by decide +kernel
theorem dX4_become_70 : decode cX4_become 70 = .ok (.iload_n 1, 1) := by decide +kernel
theorem dX4_become_71 : decode cX4_become 71 = .ok (.iload_n 2, 1) := by decide +kernel
theorem dX4_become_72 : decode cX4_become 72 = .ok (.iload_n 3, 1) := by decide +kernel
theorem dX4_become_73 : decode cX4_become 73 = .ok (.invokevirtual 227, 3) := by decide +kernel
theorem dX4_become_76 : decode cX4_become 76 = .ok (.iload 4, 2) := by decide +kernel
theorem dX4_become_78 : decode cX4_become 78 = .ok (.ireturn, 1) := by decide +kernel
theorem dX4_law_0 : decode cX4_law 0 = .ok (.aload_n 0, 1) := by decide +kernel
theorem dX4_law_1 : decode cX4_law 1 = .ok (.invokevirtual 94, 3) := by decide +kernel
theorem dX4_law_4 : decode cX4_law 4 = .ok (.ifCond .eq 13, 3) := by decide +kernel
theorem dX4_law_7 : decode cX4_law 7 = .ok (.iload_n 1, 1) := by decide +kernel
theorem dX4_law_8 : decode cX4_law 8 = .ok (.iconst 2, 1) := by decide +kernel
theorem dX4_law_9 : decode cX4_law 9 = .ok (.bipush 9, 2) := by decide +kernel
theorem dX4_law_11 : decode cX4_law 11 = .ok (.invokestatic 64, 3) := by decide +kernel
theorem dX4_law_14 : decode cX4_law 14 = .ok (.ifCond .ne 9, 3) := by decide +kernel
theorem dX4_law_17 : decode cX4_law 17 = .ok (.aload_n 0, 1) := by decide +kernel
theorem dX4_law_18 : decode cX4_law 18 = .ok (.iconst 1, 1) := by decide +kernel
theorem dX4_law_19 : decode cX4_law 19 = .ok (.invokevirtual 68, 3) := by decide +kernel
theorem dX4_law_22 : decode cX4_law 22 = .ok (.ireturn, 1) := by decide +kernel
theorem dX4_law_23 : decode cX4_law 23 = .ok (.iload_n 2, 1) := by decide +kernel
theorem dX4_law_24 : decode cX4_law 24 = .ok (.getstatic 244, 3) := by decide +kernel
theorem dX4_law_27 : decode cX4_law 27 = .ok (.iload_n 1, 1) := by decide +kernel
theorem dX4_law_28 : decode cX4_law 28 = .ok (.iaload, 1) := by decide +kernel
theorem dX4_law_29 : decode cX4_law 29 = .ok (.getstatic 247, 3) := by decide +kernel
theorem dX4_law_32 : decode cX4_law 32 = .ok (.iload_n 1, 1) := by decide +kernel
theorem dX4_law_33 : decode cX4_law 33 = .ok (.iaload, 1) := by decide +kernel
theorem dX4_law_34 : decode cX4_law 34 = .ok (.invokestatic 64, 3) := by decide +kernel
theorem dX4_law_37 : decode cX4_law 37 = .ok (.ifCond .ne 9, 3) := by decide +kernel
theorem dX4_law_40 : decode cX4_law 40 = .ok (.aload_n 0, 1) := by decide +kernel
theorem dX4_law_41 : decode cX4_law 41 = .ok (.iconst 2, 1) := by decide +kernel
theorem dX4_law_42 : decode cX4_law 42 = .ok (.invokevirtual 68, 3) := by decide +kernel
theorem dX4_law_45 : decode cX4_law 45 = .ok (.ireturn, 1) := by decide +kernel
theorem dX4_law_46 : decode cX4_law 46 = .ok (.iload_n 1, 1) := by decide +kernel
theorem dX4_law_47 : decode cX4_law 47 = .ok (.bipush 8, 2) := by decide +kernel
theorem dX4_law_49 : decode cX4_law 49 = .ok (.if_icmp .ne 17, 3) := by decide +kernel
theorem dX4_law_52 : decode cX4_law 52 = .ok (.aload_n 0, 1) := by decide +kernel
theorem dX4_law_53 : decode cX4_law 53 = .ok (.getfield 19, 3) := by decide +kernel
theorem dX4_law_56 : decode cX4_law 56 = .ok (.getfield 101, 3) := by decide +kernel
theorem dX4_law_59 : decode cX4_law 59 = .ok (.bipush 9, 2) := by decide +kernel
theorem dX4_law_61 : decode cX4_law 61 = .ok (.iaload, 1) := by decide +kernel
theorem dX4_law_62 : decode cX4_law 62 = .ok (.iload_n 2, 1) := by decide +kernel
theorem dX4_law_63 : decode cX4_law 63 = .ok (.if_icmp .lt 23, 3) := by decide +kernel
theorem dX4_law_66 : decode cX4_law 66 = .ok (.iload_n 1, 1) := by decide +kernel
theorem dX4_law_67 : decode cX4_law 67 = .ok (.bipush 9, 2) := by decide +kernel
theorem dX4_law_69 : decode cX4_law 69 = .ok (.if_icmp .ne 23, 3) := by decide +kernel
theorem dX4_law_72 : decode cX4_law 72 = .ok (.iload_n 2, 1) := by decide +kernel
theorem dX4_law_73 : decode cX4_law 73 = .ok (.aload_n 0, 1) := by decide +kernel
theorem dX4_law_74 : decode cX4_law 74 = .ok (.getfield 19, 3) := by decide +kernel
theorem dX4_law_77 : decode cX4_law 77 = .ok (.getfield 101, 3) := by decide +kernel
theorem dX4_law_80 : decode cX4_law 80 = .ok (.bipush 8, 2) := by decide +kernel
theorem dX4_law_82 : decode cX4_law 82 = .ok (.iaload, 1) := by decide +kernel
theorem dX4_law_83 : decode cX4_law 83 = .ok (.if_icmp .ge 9, 3) := by decide +kernel
theorem dX4_law_86 : decode cX4_law 86 = .ok (.aload_n 0, 1) := by decide +kernel
theorem dX4_law_87 : decode cX4_law 87 = .ok (.iconst 5, 1) := by decide +kernel
theorem dX4_law_88 : decode cX4_law 88 = .ok (.invokevirtual 68, 3) := by decide +kernel
theorem dX4_law_91 : decode cX4_law 91 = .ok (.ireturn, 1) := by decide +kernel
theorem dX4_law_92 : decode cX4_law 92 = .ok (.aload_n 0, 1) := by decide +kernel
theorem dX4_law_93 : decode cX4_law 93 = .ok (.invokevirtual 224, 3) := by decide +kernel
theorem dX4_law_96 : decode cX4_law 96 = .ok (.aload_n 0, 1) := by decide +kernel
theorem dX4_law_97 : decode cX4_law 97 = .ok (.getfield 19, 3) := by decide +kernel
theorem dX4_law_100 : decode cX4_law 100 = .ok (.getfield 101, 3) := by decide +kernel
theorem dX4_law_103 : decode cX4_law 103 = .ok (.iload_n 1, 1) := by decide +kernel
theorem dX4_law_104 : decode cX4_law 104 = .ok (.iaload, 1) := by decide +kernel
theorem dX4_law_105 : decode cX4_law 105 = .ok (.istore_n 3, 1) := by decide +kernel
theorem dX4_law_106 : decode cX4_law 106 = .ok (.aload_n 0, 1) := by decide +kernel
theorem dX4_law_107 : decode cX4_law 107 = .ok (.getfield 19, 3) := by decide +kernel
theorem dX4_law_110 : decode cX4_law 110 = .ok (.getfield 101, 3) := by decide +kernel
theorem dX4_law_113 : decode cX4_law 113 = .ok (.iload_n 1, 1) := by decide +kernel
theorem dX4_law_114 : decode cX4_law 114 = .ok (.iload_n 2, 1) := by decide +kernel
theorem dX4_law_115 : decode cX4_law 115 = .ok (.iastore, 1) := by decide +kernel
theorem dX4_law_116 : decode cX4_law 116 = .ok (.iload_n 3, 1) := by decide +kernel
theorem dX4_law_117 : decode cX4_law 117 = .ok (.ireturn, 1) := by decide +kernel
theorem dX4_undo_0 : decode cX4_undo 0 = .ok (.aload_n 0, 1) := by decide +kernel
theorem dX4_undo_1 : decode cX4_undo 1 = .ok (.invokevirtual 94, 3) := by decide +kernel
theorem dX4_undo_4 : decode cX4_undo 4 = .ok (.ifCond .ne 9, 3) := by decide +kernel
theorem dX4_undo_7 : decode cX4_undo 7 = .ok (.aload_n 0, 1) := by decide +kernel
theorem dX4_undo_8 : decode cX4_undo 8 = .ok (.iconst 1, 1) := by decide +kernel
theorem dX4_undo_9 : decode cX4_undo 9 = .ok (.invokevirtual 68, 3) := by decide +kernel
theorem dX4_undo_12 : decode cX4_undo 12 = .ok (.ireturn, 1) := by decide +kernel
theorem dX4_undo_13 : decode cX4_undo 13 = .ok (.aload_n 0, 1) := by decide +kernel
theorem dX4_undo_14 : decode cX4_undo 14 = .ok (.getfield 45, 3) := by decide +kernel
theorem dX4_undo_17 : decode cX4_undo 17 = .ok (.ifCond .ne 9, 3) := by decide +kernel
theorem dX4_undo_20 : decode cX4_undo 20 = .ok (.aload_n 0, 1) := by decide +kernel
theorem dX4_undo_21 : decode cX4_undo 21 = .ok (.iconst 5, 1) := by decide +kernel
theorem dX4_undo_22 : decode cX4_undo 22 = .ok (.invokevirtual 68, 3) := by decide +kernel
theorem dX4_undo_25 : decode cX4_undo 25 = .ok (.ireturn, 1) := by decide +kernel
theorem dX4_undo_26 : decode cX4_undo 26 = .ok (.aload_n 0, 1) := by decide +kernel
theorem dX4_undo_27 : decode cX4_undo 27 = .ok (.invokevirtual 78, 3) := by decide +kernel
theorem dX4_undo_30 : decode cX4_undo 30 = .ok (.aload_n 0, 1) := by decide +kernel
theorem dX4_undo_31 : decode cX4_undo 31 = .ok (.aload_n 0, 1) := by decide +kernel
theorem dX4_undo_32 : decode cX4_undo 32 = .ok (.getfield 48, 3) := by decide +kernel
theorem dX4_undo_35 : decode cX4_undo 35 = .ok (.bipush 10, 2) := by decide +kernel
theorem dX4_undo_37 : decode cX4_undo 37 = .ok (.iadd, 1) := by decide +kernel
theorem dX4_undo_38 : decode cX4_undo 38 = .ok (.iconst 1, 1) := by decide +kernel
theorem dX4_undo_39 : decode cX4_undo 39 = .ok (.isub, 1) := by decide +kernel
theorem dX4_undo_40 : decode cX4_undo 40 = .ok (.bipush 10, 2) := by decide +kernel
theorem dX4_undo_42 : decode cX4_undo 42 = .ok (.irem, 1) := by decide +kernel
theorem dX4_undo_43 : decode cX4_undo 43 = .ok (.putfield 48, 3) := by decide +kernel
theorem dX4_undo_46 : decode cX4_undo 46 = .ok (.aload_n 0, 1) := by decide +kernel
theorem dX4_undo_47 : decode cX4_undo 47 = .ok (.dup, 1) := by decide +kernel
theorem dX4_undo_48 : decode cX4_undo 48 = .ok (.getfield 45, 3) := by decide +kernel
theorem dX4_undo_51 : decode cX4_undo 51 = .ok (.iconst 1, 1) := by decide +kernel
theorem dX4_undo_52 : decode cX4_undo 52 = .ok (.isub, 1) := by decide +kernel
theorem dX4_undo_53 : decode cX4_undo 53 = .ok (.putfield 45, 3) := by decide +kernel
theorem dX4_undo_56 : decode cX4_undo 56 = .ok (.aload_n 0, 1) := by decide +kernel
theorem dX4_undo_57 : decode cX4_undo 57 = .ok (.getfield 19, 3) := by decide +kernel
theorem dX4_undo_60 : decode cX4_undo 60 = .ok (.aload_n 0, 1) := by decide +kernel
theorem dX4_undo_61 : decode cX4_undo 61 = .ok (.getfield 30, 3) := by decide +kernel
theorem dX4_undo_64 : decode cX4_undo 64 = .ok (.aload_n 0, 1) := by decide +kernel
theorem dX4_undo_65 : decode cX4_undo 65 = .ok (.getfield 48, 3) := by decide +kernel
theorem dX4_undo_68 : decode cX4_undo 68 = .ok (.aaload, 1) := by decide +kernel
theorem dX4_undo_69 : decode cX4_undo 69 = .ok (.invokevirtual 84, 3) := by decide +kernel
theorem dX4_undo_72 : decode cX4_undo 72 = .ok (.aload_n 0, 1) := by decide +kernel
theorem dX4_undo_73 : decode cX4_undo 73 = .ok (.getfield 45, 3) := by decide +kernel
theorem dX4_undo_76 : decode cX4_undo 76 = .ok (.ireturn, 1) := by decide +kernel
theorem dX4_image_0 : decode cX4_image 0 = .ok (.aload_n 0, 1) := by decide +kernel
theorem dX4_image_1 : decode cX4_image 1 = .ok (.invokevirtual 94, 3) := by decide +kernel
theorem dX4_image_4 : decode cX4_image 4 = .ok (.ifCond .eq 12, 3) := by decide +kernel
theorem dX4_image_7 : decode cX4_image 7 = .ok (.iload_n 1, 1) := by decide +kernel
theorem dX4_image_8 : decode cX4_image 8 = .ok (.iconst 0, 1) := by decide +kernel
theorem dX4_image_9 : decode cX4_image 9 = .ok (.iconst 1, 1) := by decide +kernel
theorem dX4_image_10 : decode cX4_image 10 = .ok (.invokestatic 64, 3) := by decide +kernel
theorem dX4_image_13 : decode cX4_image 13 = .ok (.ifCond .ne 9, 3) := by decide +kernel
theorem dX4_image_16 : decode cX4_image 16 = .ok (.aload_n 0, 1) := by decide +kernel
theorem dX4_image_17 : decode cX4_image 17 = .ok (.iconst 1, 1) := by decide +kernel
theorem dX4_image_18 : decode cX4_image 18 = .ok (.invokevirtual 250, 3) := by decide +kernel
theorem dX4_image_21 : decode cX4_image 21 = .ok (.ireturn, 1) := by decide +kernel
theorem dX4_image_22 : decode cX4_image 22 = .ok (.aload_n 0, 1) := by decide +kernel
theorem dX4_image_23 : decode cX4_image 23 = .ok (.invokevirtual 78, 3) := by decide +kernel
theorem dX4_image_26 : decode cX4_image 26 = .ok (.aload_n 0, 1) := by decide +kernel
theorem dX4_image_27 : decode cX4_image 27 = .ok (.getfield 34, 3) := by decide +kernel
theorem dX4_image_30 : decode cX4_image 30 = .ok (.iload_n 1, 1) := by decide +kernel
theorem dX4_image_31 : decode cX4_image 31 = .ok (.aaload, 1) := by decide +kernel
theorem dX4_image_32 : decode cX4_image 32 = .ok (.aload_n 0, 1) := by decide +kernel
theorem dX4_image_33 : decode cX4_image 33 = .ok (.getfield 19, 3) := by decide +kernel
theorem dX4_image_36 : decode cX4_image 36 = .ok (.invokevirtual 84, 3) := by decide +kernel
theorem dX4_image_39 : decode cX4_image 39 = .ok (.aload_n 0, 1) := by decide +kernel
theorem dX4_image_40 : decode cX4_image 40 = .ok (.getfield 37, 3) := by decide +kernel
theorem dX4_image_43 : decode cX4_image 43 = .ok (.iload_n 1, 1) := by decide +kernel
theorem dX4_image_44 : decode cX4_image 44 = .ok (.iconst 1, 1) := by decide +kernel
theorem dX4_image_45 : decode cX4_image 45 = .ok (.bastore, 1) := by decide +kernel
theorem dX4_image_46 : decode cX4_image 46 = .ok (.iconst 1, 1) := by decide +kernel
theorem dX4_image_47 : decode cX4_image 47 = .ok (.ireturn, 1) := by decide +kernel
theorem dX4_again_0 : decode cX4_again 0 = .ok (.iload_n 1, 1) := by decide +kernel
theorem dX4_again_1 : decode cX4_again 1 = .ok (.iconst 0, 1) := by decide +kernel
theorem dX4_again_2 : decode cX4_again 2 = .ok (.iconst 1, 1) := by decide +kernel
theorem dX4_again_3 : decode cX4_again 3 = .ok (.invokestatic 64, 3) := by decide +kernel
theorem dX4_again_6 : decode cX4_again 6 = .ok (.ifCond .eq 12, 3) := by decide +kernel
theorem dX4_again_9 : decode cX4_again 9 = .ok (.aload_n 0, 1) := by decide +kernel
theorem dX4_again_10 : decode cX4_again 10 = .ok (.getfield 37, 3) := by decide +kernel
theorem dX4_again_13 : decode cX4_again 13 = .ok (.iload_n 1, 1) := by decide +kernel
theorem dX4_again_14 : decode cX4_again 14 = .ok (.baload, 1) := by decide +kernel
theorem dX4_again_15 : decode cX4_again 15 = .ok (.ifCond .ne 9, 3) := by decide +kernel
theorem dX4_again_18 : decode cX4_again 18 = .ok (.aload_n 0, 1) := by decide +kernel
theorem dX4_again_19 : decode cX4_again 19 = .ok (.iconst 1, 1) := by decide +kernel
theorem dX4_again_20 : decode cX4_again 20 = .ok (.invokevirtual 250, 3) := by decide +kernel
theorem dX4_again_23 : decode cX4_again 23 = .ok (.ireturn, 1) := by decide +kernel
theorem dX4_again_24 : decode cX4_again 24 = .ok (.aload_n 0, 1) := by decide +kernel
theorem dX4_again_25 : decode cX4_again 25 = .ok (.invokevirtual 78, 3) := by decide +kernel
theorem dX4_again_28 : decode cX4_again 28 = .ok (.aload_n 0, 1) := by decide +kernel
theorem dX4_again_29 : decode cX4_again 29 = .ok (.getfield 19, 3) := by decide +kernel
theorem dX4_again_32 : decode cX4_again 32 = .ok (.aload_n 0, 1) := by decide +kernel
theorem dX4_again_33 : decode cX4_again 33 = .ok (.getfield 34, 3) := by decide +kernel
theorem dX4_again_36 : decode cX4_again 36 = .ok (.iload_n 1, 1) := by decide +kernel
theorem dX4_again_37 : decode cX4_again 37 = .ok (.aaload, 1) := by decide +kernel
theorem dX4_again_38 : decode cX4_again 38 = .ok (.invokevirtual 84, 3) := by decide +kernel
theorem dX4_again_41 : decode cX4_again 41 = .ok (.aload_n 0, 1) := by decide +kernel
theorem dX4_again_42 : decode cX4_again 42 = .ok (.invokevirtual 88, 3) := by decide +kernel
theorem dX4_again_45 : decode cX4_again 45 = .ok (.iconst 1, 1) := by decide +kernel
theorem dX4_again_46 : decode cX4_again 46 = .ok (.ireturn, 1) := by decide +kernel
theorem dX4_letter_0 : decode cX4_letter 0 = .ok (.aload_n 0, 1) := by decide +kernel
theorem dX4_letter_1 : decode cX4_letter 1 = .ok (.iload_n 1, 1) := by decide +kernel
theorem dX4_letter_2 : decode cX4_letter 2 = .ok (.invokevirtual 105, 3) := by decide +kernel
theorem dX4_letter_5 : decode cX4_letter 5 = .ok (.ifCond .eq 12, 3) := by decide +kernel
theorem dX4_letter_8 : decode cX4_letter 8 = .ok (.iload_n 2, 1) := by decide +kernel
theorem dX4_letter_9 : decode cX4_letter 9 = .ok (.iconst 0, 1) := by decide +kernel
theorem dX4_letter_10 : decode cX4_letter 10 = .ok (.iconst 5, 1) := by decide +kernel
theorem dX4_letter_11 : decode cX4_letter 11 = .ok (.invokestatic 64, 3) := by decide +kernel
theorem dX4_letter_14 : decode cX4_letter 14 = .ok (.ifCond .ne 11, 3) := by decide +kernel
theorem dX4_letter_17 : decode cX4_letter 17 = .ok (.new 253, 3) := by decide +kernel
theorem dX4_letter_20 : decode cX4_letter 20 = .ok (.dup, 1) := by decide +kernel
theorem dX4_letter_21 : decode cX4_letter 21 = .ok (.invokespecial 255, 3) := by decide +kernel
theorem dX4_letter_24 : decode cX4_letter 24 = .ok (.athrow, 1) := by decide +kernel
theorem dX4_letter_25 : decode cX4_letter 25 = .ok (.aload_n 0, 1) := by decide +kernel
theorem dX4_letter_26 : decode cX4_letter 26 = .ok (.getfield 19, 3) := by decide +kernel
theorem dX4_letter_29 : decode cX4_letter 29 = .ok (.getfield 256, 3) := by decide +kernel
theorem dX4_letter_32 : decode cX4_letter 32 = .ok (.iload_n 1, 1) := by decide +kernel
theorem dX4_letter_33 : decode cX4_letter 33 = .ok (.laload, 1) := by decide +kernel
theorem dX4_letter_34 : decode cX4_letter 34 = .ok (.iconst 5, 1) := by decide +kernel
theorem dX4_letter_35 : decode cX4_letter 35 = .ok (.iload_n 2, 1) := by decide +kernel
theorem dX4_letter_36 : decode cX4_letter 36 = .ok (.imul, 1) := by decide +kernel
theorem dX4_letter_37 : decode cX4_letter 37 = .ok (.lshr, 1) := by decide +kernel
theorem dX4_letter_38 : decode cX4_letter 38 = .ok (.l2i, 1) := by decide +kernel
theorem dX4_letter_39 : decode cX4_letter 39 = .ok (.bipush 31, 2) := by decide +kernel
theorem dX4_letter_41 : decode cX4_letter 41 = .ok (.iand, 1) := by decide +kernel
theorem dX4_letter_42 : decode cX4_letter 42 = .ok (.istore_n 3, 1) := by decide +kernel
theorem dX4_letter_43 : decode cX4_letter 43 = .ok (.iload_n 3, 1) := by decide +kernel
theorem dX4_letter_44 : decode cX4_letter 44 = .ok (.ifCond .ne 11, 3) := by decide +kernel
theorem dX4_letter_47 : decode cX4_letter 47 = .ok (.new 253, 3) := by decide +kernel
theorem dX4_letter_50 : decode cX4_letter 50 = .ok (.dup, 1) := by decide +kernel
theorem dX4_letter_51 : decode cX4_letter 51 = .ok (.invokespecial 255, 3) := by decide +kernel
theorem dX4_letter_54 : decode cX4_letter 54 = .ok (.athrow, 1) := by decide +kernel
theorem dX4_letter_55 : decode cX4_letter 55 = .ok (.iload_n 3, 1) := by decide +kernel
theorem dX4_letter_56 : decode cX4_letter 56 = .ok (.iconst 1, 1) := by decide +kernel
theorem dX4_letter_57 : decode cX4_letter 57 = .ok (.isub, 1) := by decide +kernel
theorem dX4_letter_58 : decode cX4_letter 58 = .ok (.ireturn, 1) := by decide +kernel
theorem dX4_size_0 : decode cX4_size 0 = .ok (.aload_n 0, 1) := by decide +kernel
theorem dX4_size_1 : decode cX4_size 1 = .ok (.getfield 41, 3) := by decide +kernel
theorem dX4_size_4 : decode cX4_size 4 = .ok (.ireturn, 1) := by decide +kernel
theorem dX4_trouble_0 : decode cX4_trouble 0 = .ok (.aload_n 0, 1) := by decide +kernel
theorem dX4_trouble_1 : decode cX4_trouble 1 = .ok (.getfield 51, 3) := by decide +kernel
theorem dX4_trouble_4 : decode cX4_trouble 4 = .ok (.ireturn, 1) := by decide +kernel
theorem dX4_within_0 : decode cX4_within 0 = .ok (.iload_n 0, 1) := by decide +kernel
theorem dX4_within_1 : decode cX4_within 1 = .ok (.iload_n 1, 1) := by decide +kernel
theorem dX4_within_2 : decode cX4_within 2 = .ok (.if_icmp .lt 12, 3) := by decide +kernel
theorem dX4_within_5 : decode cX4_within 5 = .ok (.iload_n 0, 1) := by decide +kernel
theorem dX4_within_6 : decode cX4_within 6 = .ok (.iload_n 2, 1) := by decide +kernel
theorem dX4_within_7 : decode cX4_within 7 = .ok (.if_icmp .gt 7, 3) := by decide +kernel
theorem dX4_within_10 : decode cX4_within 10 = .ok (.iconst 1, 1) := by decide +kernel
theorem dX4_within_11 : decode cX4_within 11 = .ok (.goto 4, 3) := by decide +kernel
theorem dX4_within_14 : decode cX4_within 14 = .ok (.iconst 0, 1) := by decide +kernel
theorem dX4_within_15 : decode cX4_within 15 = .ok (.ireturn, 1) := by decide +kernel
theorem dX4_hasText_0 : decode cX4_hasText 0 = .ok (.aload_n 0, 1) := by decide +kernel
theorem dX4_hasText_1 : decode cX4_hasText 1 = .ok (.getfield 19, 3) := by decide +kernel
theorem dX4_hasText_4 : decode cX4_hasText 4 = .ok (.getfield 91, 3) := by decide +kernel
theorem dX4_hasText_7 : decode cX4_hasText 7 = .ok (.ifCond .le 7, 3) := by decide +kernel
theorem dX4_hasText_10 : decode cX4_hasText 10 = .ok (.iconst 1, 1) := by decide +kernel
theorem dX4_hasText_11 : decode cX4_hasText 11 = .ok (.goto 4, 3) := by decide +kernel
theorem dX4_hasText_14 : decode cX4_hasText 14 = .ok (.iconst 0, 1) := by decide +kernel
theorem dX4_hasText_15 : decode cX4_hasText 15 = .ok (.ireturn, 1) := by decide +kernel
theorem dX4_hasShip_0 : decode cX4_hasShip 0 = .ok (.iload_n 1, 1) := by decide +kernel
theorem dX4_hasShip_1 : decode cX4_hasShip 1 = .ok (.iconst 0, 1) := by decide +kernel
theorem dX4_hasShip_2 : decode cX4_hasShip 2 = .ok (.aload_n 0, 1) := by decide +kernel
theorem dX4_hasShip_3 : decode cX4_hasShip 3 = .ok (.getfield 19, 3) := by decide +kernel
theorem dX4_hasShip_6 : decode cX4_hasShip 6 = .ok (.getfield 91, 3) := by decide +kernel
theorem dX4_hasShip_9 : decode cX4_hasShip 9 = .ok (.iconst 1, 1) := by decide +kernel
theorem dX4_hasShip_10 : decode cX4_hasShip 10 = .ok (.isub, 1) := by decide +kernel
theorem dX4_hasShip_11 : decode cX4_hasShip 11 = .ok (.invokestatic 64, 3) := by decide +kernel
theorem dX4_hasShip_14 : decode cX4_hasShip 14 = .ok (.ireturn, 1) := by decide +kernel
theorem dX4_hasClaim_0 : decode cX4_hasClaim 0 = .ok (.iload_n 1, 1) := by decide +kernel
theorem dX4_hasClaim_1 : decode cX4_hasClaim 1 = .ok (.iconst 0, 1) := by decide +kernel
theorem dX4_hasClaim_2 : decode cX4_hasClaim 2 = .ok (.aload_n 0, 1) := by decide +kernel
theorem dX4_hasClaim_3 : decode cX4_hasClaim 3 = .ok (.getfield 19, 3) := by decide +kernel
theorem dX4_hasClaim_6 : decode cX4_hasClaim 6 = .ok (.getfield 98, 3) := by decide +kernel
theorem dX4_hasClaim_9 : decode cX4_hasClaim 9 = .ok (.iconst 1, 1) := by decide +kernel
theorem dX4_hasClaim_10 : decode cX4_hasClaim 10 = .ok (.isub, 1) := by decide +kernel
theorem dX4_hasClaim_11 : decode cX4_hasClaim 11 = .ok (.invokestatic 64, 3) := by decide +kernel
theorem dX4_hasClaim_14 : decode cX4_hasClaim 14 = .ok (.ireturn, 1) := by decide +kernel
theorem dX4_accept_0 : decode cX4_accept 0 = .ok (.aload_n 0, 1) := by decide +kernel
theorem dX4_accept_1 : decode cX4_accept 1 = .ok (.iconst 0, 1) := by decide +kernel
theorem dX4_accept_2 : decode cX4_accept 2 = .ok (.putfield 51, 3) := by decide +kernel
theorem dX4_accept_5 : decode cX4_accept 5 = .ok (.aload_n 0, 1) := by decide +kernel
theorem dX4_accept_6 : decode cX4_accept 6 = .ok (.iconst (-1), 1) := by decide +kernel
theorem dX4_accept_7 : decode cX4_accept 7 = .ok (.putfield 54, 3) := by decide +kernel
theorem dX4_accept_10 : decode cX4_accept 10 = .ok (.return_, 1) := by decide +kernel
theorem dX4_refuse_0 : decode cX4_refuse 0 = .ok (.aload_n 0, 1) := by decide +kernel
theorem dX4_refuse_1 : decode cX4_refuse 1 = .ok (.iload_n 1, 1) := by decide +kernel
theorem dX4_refuse_2 : decode cX4_refuse 2 = .ok (.putfield 51, 3) := by decide +kernel
theorem dX4_refuse_5 : decode cX4_refuse 5 = .ok (.aload_n 0, 1) := by decide +kernel
theorem dX4_refuse_6 : decode cX4_refuse 6 = .ok (.iconst (-1), 1) := by decide +kernel
theorem dX4_refuse_7 : decode cX4_refuse 7 = .ok (.putfield 54, 3) := by decide +kernel
theorem dX4_refuse_10 : decode cX4_refuse 10 = .ok (.iconst 0, 1) := by decide +kernel
theorem dX4_refuse_11 : decode cX4_refuse 11 = .ok (.ireturn, 1) := by decide +kernel
theorem dX4_none_0 : decode cX4_none 0 = .ok (.aload_n 0, 1) := by decide +kernel
theorem dX4_none_1 : decode cX4_none 1 = .ok (.iload_n 1, 1) := by decide +kernel
theorem dX4_none_2 : decode cX4_none 2 = .ok (.invokevirtual 250, 3) := by decide +kernel
theorem dX4_none_5 : decode cX4_none 5 = .ok (.pop, 1) := by decide +kernel
theorem dX4_none_6 : decode cX4_none 6 = .ok (.iconst (-1), 1) := by decide +kernel
theorem dX4_none_7 : decode cX4_none 7 = .ok (.ireturn, 1) := by decide +kernel
theorem dX4_nothing_0 : decode cX4_nothing 0 = .ok (.aload_n 0, 1) := by decide +kernel
theorem dX4_nothing_1 : decode cX4_nothing 1 = .ok (.iload_n 1, 1) := by decide +kernel
theorem dX4_nothing_2 : decode cX4_nothing 2 = .ok (.invokevirtual 250, 3) := by decide +kernel
theorem dX4_nothing_5 : decode cX4_nothing 5 = .ok (.pop, 1) := by decide +kernel
theorem dX4_nothing_6 : decode cX4_nothing 6 = .ok (.ldc2_w 260, 3) := by decide +kernel
theorem dX4_nothing_9 : decode cX4_nothing 9 = .ok (.lreturn, 1) := by decide +kernel
theorem dX4_putBytes_0 : decode cX4_putBytes 0 = .ok (.bipush 24, 2) := by decide +kernel
theorem dX4_putBytes_2 : decode cX4_putBytes 2 = .ok (.istore_n 2, 1) := by decide +kernel
theorem dX4_putBytes_3 : decode cX4_putBytes 3 = .ok (.iload_n 2, 1) := by decide +kernel
theorem dX4_putBytes_4 : decode cX4_putBytes 4 = .ok (.ifCond .lt 45, 3) := by decide +kernel
theorem dX4_putBytes_7 : decode cX4_putBytes 7 = .ok (.aload_n 0, 1) := by decide +kernel
theorem dX4_putBytes_8 : decode cX4_putBytes 8 = .ok (.getfield 41, 3) := by decide +kernel
theorem dX4_putBytes_11 : decode cX4_putBytes 11 = .ok (.sipush 600, 3) := by decide +kernel
theorem dX4_putBytes_14 : decode cX4_putBytes 14 = .ok (.if_icmp .ge 35, 3) := by decide +kernel
theorem dX4_putBytes_17 : decode cX4_putBytes 17 = .ok (.aload_n 0, 1) := by decide +kernel
theorem dX4_putBytes_18 : decode cX4_putBytes 18 = .ok (.getfield 10, 3) := by decide +kernel
theorem dX4_putBytes_21 : decode cX4_putBytes 21 = .ok (.getfield 262, 3) := by decide +kernel
theorem dX4_putBytes_24 : decode cX4_putBytes 24 = .ok (.aload_n 0, 1) := by decide +kernel
theorem dX4_putBytes_25 : decode cX4_putBytes 25 = .ok (.getfield 41, 3) := by decide +kernel
theorem dX4_putBytes_28 : decode cX4_putBytes 28 = .ok (.iload_n 1, 1) := by decide +kernel
theorem dX4_putBytes_29 : decode cX4_putBytes 29 = .ok (.iload_n 2, 1) := by decide +kernel
theorem dX4_putBytes_30 : decode cX4_putBytes 30 = .ok (.ishr, 1) := by decide +kernel
theorem dX4_putBytes_31 : decode cX4_putBytes 31 = .ok (.i2b, 1) := by decide +kernel
theorem dX4_putBytes_32 : decode cX4_putBytes 32 = .ok (.bastore, 1) := by decide +kernel
theorem dX4_putBytes_33 : decode cX4_putBytes 33 = .ok (.aload_n 0, 1) := by decide +kernel
theorem dX4_putBytes_34 : decode cX4_putBytes 34 = .ok (.dup, 1) := by decide +kernel
theorem dX4_putBytes_35 : decode cX4_putBytes 35 = .ok (.getfield 41, 3) := by decide +kernel
theorem dX4_putBytes_38 : decode cX4_putBytes 38 = .ok (.iconst 1, 1) := by decide +kernel
theorem dX4_putBytes_39 : decode cX4_putBytes 39 = .ok (.iadd, 1) := by decide +kernel
theorem dX4_putBytes_40 : decode cX4_putBytes 40 = .ok (.putfield 41, 3) := by decide +kernel
theorem dX4_putBytes_43 : decode cX4_putBytes 43 = .ok (.iinc 2 (-8), 3) := by decide +kernel
theorem dX4_putBytes_46 : decode cX4_putBytes 46 = .ok (.goto (-43), 3) := by decide +kernel
theorem dX4_putBytes_49 : decode cX4_putBytes 49 = .ok (.return_, 1) := by decide +kernel
theorem dX4_beginAct_0 : decode cX4_beginAct 0 = .ok (.aload_n 0, 1) := by decide +kernel
theorem dX4_beginAct_1 : decode cX4_beginAct 1 = .ok (.invokevirtual 78, 3) := by decide +kernel
theorem dX4_beginAct_4 : decode cX4_beginAct 4 = .ok (.aload_n 0, 1) := by decide +kernel
theorem dX4_beginAct_5 : decode cX4_beginAct 5 = .ok (.getfield 30, 3) := by decide +kernel
theorem dX4_beginAct_8 : decode cX4_beginAct 8 = .ok (.aload_n 0, 1) := by decide +kernel
theorem dX4_beginAct_9 : decode cX4_beginAct 9 = .ok (.getfield 48, 3) := by decide +kernel
theorem dX4_beginAct_12 : decode cX4_beginAct 12 = .ok (.aaload, 1) := by decide +kernel
theorem dX4_beginAct_13 : decode cX4_beginAct 13 = .ok (.aload_n 0, 1) := by decide +kernel
theorem dX4_beginAct_14 : decode cX4_beginAct 14 = .ok (.getfield 19, 3) := by decide +kernel
theorem dX4_beginAct_17 : decode cX4_beginAct 17 = .ok (.invokevirtual 84, 3) := by decide +kernel
theorem dX4_beginAct_20 : decode cX4_beginAct 20 = .ok (.aload_n 0, 1) := by decide +kernel
theorem dX4_beginAct_21 : decode cX4_beginAct 21 = .ok (.aload_n 0, 1) := by decide +kernel
theorem dX4_beginAct_22 : decode cX4_beginAct 22 = .ok (.getfield 48, 3) := by decide +kernel
theorem dX4_beginAct_25 : decode cX4_beginAct 25 = .ok (.iconst 1, 1) := by decide +kernel
theorem dX4_beginAct_26 : decode cX4_beginAct 26 = .ok (.iadd, 1) := by decide +kernel
theorem dX4_beginAct_27 : decode cX4_beginAct 27 = .ok (.bipush 10, 2) := by decide +kernel
theorem dX4_beginAct_29 : decode cX4_beginAct 29 = .ok (.irem, 1) := by decide +kernel
theorem dX4_beginAct_30 : decode cX4_beginAct 30 = .ok (.putfield 48, 3) := by decide +kernel
theorem dX4_beginAct_33 : decode cX4_beginAct 33 = .ok (.aload_n 0, 1) := by decide +kernel
theorem dX4_beginAct_34 : decode cX4_beginAct 34 = .ok (.aload_n 0, 1) := by decide +kernel
theorem dX4_beginAct_35 : decode cX4_beginAct 35 = .ok (.getfield 45, 3) := by decide +kernel
theorem dX4_beginAct_38 : decode cX4_beginAct 38 = .ok (.iconst 1, 1) := by decide +kernel
theorem dX4_beginAct_39 : decode cX4_beginAct 39 = .ok (.iadd, 1) := by decide +kernel
theorem dX4_beginAct_40 : decode cX4_beginAct 40 = .ok (.bipush 10, 2) := by decide +kernel
theorem dX4_beginAct_42 : decode cX4_beginAct 42 = .ok (.invokestatic 266, 3) := by decide +kernel
theorem dX4_beginAct_45 : decode cX4_beginAct 45 = .ok (.putfield 45, 3) := by decide +kernel
theorem dX4_beginAct_48 : decode cX4_beginAct 48 = .ok (.return_, 1) := by decide +kernel
theorem dX4_forgetActs_0 : decode cX4_forgetActs 0 = .ok (.aload_n 0, 1) := by decide +kernel
theorem dX4_forgetActs_1 : decode cX4_forgetActs 1 = .ok (.iconst 0, 1) := by decide +kernel
theorem dX4_forgetActs_2 : decode cX4_forgetActs 2 = .ok (.putfield 45, 3) := by decide +kernel
theorem dX4_forgetActs_5 : decode cX4_forgetActs 5 = .ok (.aload_n 0, 1) := by decide +kernel
theorem dX4_forgetActs_6 : decode cX4_forgetActs 6 = .ok (.iconst 0, 1) := by decide +kernel
theorem dX4_forgetActs_7 : decode cX4_forgetActs 7 = .ok (.putfield 48, 3) := by decide +kernel
theorem dX4_forgetActs_10 : decode cX4_forgetActs 10 = .ok (.return_, 1) := by decide +kernel
theorem dX4_reckon_0 : decode cX4_reckon 0 = .ok (.aload_n 0, 1) := by decide +kernel
theorem dX4_reckon_1 : decode cX4_reckon 1 = .ok (.getfield 26, 3) := by decide +kernel
theorem dX4_reckon_4 : decode cX4_reckon 4 = .ok (.aload_n 0, 1) := by decide +kernel
theorem dX4_reckon_5 : decode cX4_reckon 5 = .ok (.getfield 19, 3) := by decide +kernel
theorem dX4_reckon_8 : decode cX4_reckon 8 = .ok (.invokevirtual 210, 3) := by decide +kernel
theorem dX4_reckon_11 : decode cX4_reckon 11 = .ok (.aload_n 0, 1) := by decide +kernel
theorem dX4_reckon_12 : decode cX4_reckon 12 = .ok (.getfield 26, 3) := by decide +kernel
theorem dX4_reckon_15 : decode cX4_reckon 15 = .ok (.invokevirtual 218, 3) := by decide +kernel
theorem dX4_reckon_18 : decode cX4_reckon 18 = .ok (.return_, 1) := by decide +kernel
theorem dX4_netUnder_0 : decode cX4_netUnder 0 = .ok (.aload_n 0, 1) := by decide +kernel
theorem dX4_netUnder_1 : decode cX4_netUnder 1 = .ok (.getfield 26, 3) := by decide +kernel
theorem dX4_netUnder_4 : decode cX4_netUnder 4 = .ok (.aload_n 0, 1) := by decide +kernel
theorem dX4_netUnder_5 : decode cX4_netUnder 5 = .ok (.getfield 19, 3) := by decide +kernel
theorem dX4_netUnder_8 : decode cX4_netUnder 8 = .ok (.invokevirtual 210, 3) := by decide +kernel
theorem dX4_netUnder_11 : decode cX4_netUnder 11 = .ok (.aload_n 0, 1) := by decide +kernel
theorem dX4_netUnder_12 : decode cX4_netUnder 12 = .ok (.getfield 26, 3) := by decide +kernel
theorem dX4_netUnder_15 : decode cX4_netUnder 15 = .ok (.getfield 213, 3) := by decide +kernel
theorem dX4_netUnder_18 : decode cX4_netUnder 18 = .ok (.getfield 101, 3) := by decide +kernel
theorem dX4_netUnder_21 : decode cX4_netUnder 21 = .ok (.iconst 2, 1) := by decide +kernel
theorem dX4_netUnder_22 : decode cX4_netUnder 22 = .ok (.iload_n 2, 1) := by decide +kernel
theorem dX4_netUnder_23 : decode cX4_netUnder 23 = .ok (.iconst 1, 1) := by decide +kernel
theorem dX4_netUnder_24 : decode cX4_netUnder 24 = .ok (.iand, 1) := by decide +kernel
theorem dX4_netUnder_25 : decode cX4_netUnder 25 = .ok (.iastore, 1) := by decide +kernel
theorem dX4_netUnder_26 : decode cX4_netUnder 26 = .ok (.aload_n 0, 1) := by decide +kernel
theorem dX4_netUnder_27 : decode cX4_netUnder 27 = .ok (.getfield 26, 3) := by decide +kernel
theorem dX4_netUnder_30 : decode cX4_netUnder 30 = .ok (.getfield 213, 3) := by decide +kernel
theorem dX4_netUnder_33 : decode cX4_netUnder 33 = .ok (.getfield 101, 3) := by decide +kernel
theorem dX4_netUnder_36 : decode cX4_netUnder 36 = .ok (.iconst 3, 1) := by decide +kernel
theorem dX4_netUnder_37 : decode cX4_netUnder 37 = .ok (.iload_n 2, 1) := by decide +kernel
theorem dX4_netUnder_38 : decode cX4_netUnder 38 = .ok (.iconst 1, 1) := by decide +kernel
theorem dX4_netUnder_39 : decode cX4_netUnder 39 = .ok (.ishr, 1) := by decide +kernel
theorem dX4_netUnder_40 : decode cX4_netUnder 40 = .ok (.iconst 1, 1) := by decide +kernel
theorem dX4_netUnder_41 : decode cX4_netUnder 41 = .ok (.iand, 1) := by decide +kernel
theorem dX4_netUnder_42 : decode cX4_netUnder 42 = .ok (.iastore, 1) := by decide +kernel
theorem dX4_netUnder_43 : decode cX4_netUnder 43 = .ok (.aload_n 0, 1) := by decide +kernel
theorem dX4_netUnder_44 : decode cX4_netUnder 44 = .ok (.getfield 26, 3) := by decide +kernel
theorem dX4_netUnder_47 : decode cX4_netUnder 47 = .ok (.getfield 213, 3) := by decide +kernel
theorem dX4_netUnder_50 : decode cX4_netUnder 50 = .ok (.getfield 101, 3) := by decide +kernel
theorem dX4_netUnder_53 : decode cX4_netUnder 53 = .ok (.iconst 4, 1) := by decide +kernel
theorem dX4_netUnder_54 : decode cX4_netUnder 54 = .ok (.iload_n 2, 1) := by decide +kernel
theorem dX4_netUnder_55 : decode cX4_netUnder 55 = .ok (.iconst 2, 1) := by decide +kernel
theorem dX4_netUnder_56 : decode cX4_netUnder 56 = .ok (.ishr, 1) := by decide +kernel
theorem dX4_netUnder_57 : decode cX4_netUnder 57 = .ok (.iconst 1, 1) := by decide +kernel
theorem dX4_netUnder_58 : decode cX4_netUnder 58 = .ok (.iand, 1) := by decide +kernel
theorem dX4_netUnder_59 : decode cX4_netUnder 59 = .ok (.iastore, 1) := by decide +kernel
theorem dX4_netUnder_60 : decode cX4_netUnder 60 = .ok (.aload_n 0, 1) := by decide +kernel
theorem dX4_netUnder_61 : decode cX4_netUnder 61 = .ok (.getfield 26, 3) := by decide +kernel
theorem dX4_netUnder_64 : decode cX4_netUnder 64 = .ok (.invokevirtual 218, 3) := by decide +kernel
theorem dX4_netUnder_67 : decode cX4_netUnder 67 = .ok (.aload_n 0, 1) := by decide +kernel
theorem dX4_netUnder_68 : decode cX4_netUnder 68 = .ok (.getfield 26, 3) := by decide +kernel
theorem dX4_netUnder_71 : decode cX4_netUnder 71 = .ok (.iload_n 1, 1) := by decide +kernel
theorem dX4_netUnder_72 : decode cX4_netUnder 72 = .ok (.invokevirtual 183, 3) := by decide +kernel
theorem dX4_netUnder_75 : decode cX4_netUnder 75 = .ok (.lreturn, 1) := by decide +kernel
theorem dX4_tenthsOfBoth_0 : decode cX4_tenthsOfBoth 0 = .ok (.aload_n 0, 1) := by decide +kernel
theorem dX4_tenthsOfBoth_1 : decode cX4_tenthsOfBoth 1 = .ok (.getfield 19, 3) := by decide +kernel
theorem dX4_tenthsOfBoth_4 : decode cX4_tenthsOfBoth 4 = .ok (.iload_n 1, 1) := by decide +kernel
theorem dX4_tenthsOfBoth_5 : decode cX4_tenthsOfBoth 5 = .ok (.iconst 1, 1) := by decide +kernel
theorem dX4_tenthsOfBoth_6 : decode cX4_tenthsOfBoth 6 = .ok (.invokevirtual 112, 3) := by decide +kernel
theorem dX4_tenthsOfBoth_9 : decode cX4_tenthsOfBoth 9 = .ok (.aload_n 0, 1) := by decide +kernel
theorem dX4_tenthsOfBoth_10 : decode cX4_tenthsOfBoth 10 = .ok (.getfield 19, 3) := by decide +kernel
theorem dX4_tenthsOfBoth_13 : decode cX4_tenthsOfBoth 13 = .ok (.iload_n 2, 1) := by decide +kernel
theorem dX4_tenthsOfBoth_14 : decode cX4_tenthsOfBoth 14 = .ok (.iconst 1, 1) := by decide +kernel
theorem dX4_tenthsOfBoth_15 : decode cX4_tenthsOfBoth 15 = .ok (.invokevirtual 112, 3) := by decide +kernel
theorem dX4_tenthsOfBoth_18 : decode cX4_tenthsOfBoth 18 = .ok (.iadd, 1) := by decide +kernel
theorem dX4_tenthsOfBoth_19 : decode cX4_tenthsOfBoth 19 = .ok (.ireturn, 1) := by decide +kernel
theorem dX4_netWithTenths_0 : decode cX4_netWithTenths 0 = .ok (.aload_n 0, 1) := by decide +kernel
theorem dX4_netWithTenths_1 : decode cX4_netWithTenths 1 = .ok (.getfield 26, 3) := by decide +kernel
theorem dX4_netWithTenths_4 : decode cX4_netWithTenths 4 = .ok (.aload_n 0, 1) := by decide +kernel
theorem dX4_netWithTenths_5 : decode cX4_netWithTenths 5 = .ok (.getfield 19, 3) := by decide +kernel
theorem dX4_netWithTenths_8 : decode cX4_netWithTenths 8 = .ok (.invokevirtual 210, 3) := by decide +kernel
theorem dX4_netWithTenths_11 : decode cX4_netWithTenths 11 = .ok (.aload_n 0, 1) := by decide +kernel
theorem dX4_netWithTenths_12 : decode cX4_netWithTenths 12 = .ok (.getfield 26, 3) := by decide +kernel
theorem dX4_netWithTenths_15 : decode cX4_netWithTenths 15 = .ok (.getfield 213, 3) := by decide +kernel
theorem dX4_netWithTenths_18 : decode cX4_netWithTenths 18 = .ok (.iload_n 1, 1) := by decide +kernel
theorem dX4_netWithTenths_19 : decode cX4_netWithTenths 19 = .ok (.iconst 1, 1) := by decide +kernel
theorem dX4_netWithTenths_20 : decode cX4_netWithTenths 20 = .ok (.iload_n 3, 1) := by decide +kernel
theorem dX4_netWithTenths_21 : decode cX4_netWithTenths 21 = .ok (.invokevirtual 227, 3) := by decide +kernel
theorem dX4_netWithTenths_24 : decode cX4_netWithTenths 24 = .ok (.aload_n 0, 1) := by decide +kernel
theorem dX4_netWithTenths_25 : decode cX4_netWithTenths 25 = .ok (.getfield 26, 3) := by decide +kernel
theorem dX4_netWithTenths_28 : decode cX4_netWithTenths 28 = .ok (.getfield 213, 3) := by decide +kernel
theorem dX4_netWithTenths_31 : decode cX4_netWithTenths 31 = .ok (.iload_n 2, 1) := by decide +kernel
theorem dX4_netWithTenths_32 : decode cX4_netWithTenths 32 = .ok (.iconst 1, 1) := by decide +kernel
theorem dX4_netWithTenths_33 : decode cX4_netWithTenths 33 = .ok (.aload_n 0, 1) := by decide +kernel
theorem dX4_netWithTenths_34 : decode cX4_netWithTenths 34 = .ok (.iload_n 1, 1) := by decide +kernel
theorem dX4_netWithTenths_35 : decode cX4_netWithTenths 35 = .ok (.iload_n 2, 1) := by decide +kernel
theorem dX4_netWithTenths_36 : decode cX4_netWithTenths 36 = .ok (.invokevirtual 200, 3) := by decide +kernel
theorem dX4_netWithTenths_39 : decode cX4_netWithTenths 39 = .ok (.iload_n 3, 1) := by decide +kernel
theorem dX4_netWithTenths_40 : decode cX4_netWithTenths 40 = .ok (.isub, 1) := by decide +kernel
theorem dX4_netWithTenths_41 : decode cX4_netWithTenths 41 = .ok (.invokevirtual 227, 3) := by decide +kernel
theorem dX4_netWithTenths_44 : decode cX4_netWithTenths 44 = .ok (.aload_n 0, 1) := by decide +kernel
theorem dX4_netWithTenths_45 : decode cX4_netWithTenths 45 = .ok (.getfield 26, 3) := by decide +kernel
theorem dX4_netWithTenths_48 : decode cX4_netWithTenths 48 = .ok (.invokevirtual 218, 3) := by decide +kernel
theorem dX4_netWithTenths_51 : decode cX4_netWithTenths 51 = .ok (.aload_n 0, 1) := by decide +kernel
theorem dX4_netWithTenths_52 : decode cX4_netWithTenths 52 = .ok (.getfield 26, 3) := by decide +kernel
theorem dX4_netWithTenths_55 : decode cX4_netWithTenths 55 = .ok (.iload_n 1, 1) := by decide +kernel
theorem dX4_netWithTenths_56 : decode cX4_netWithTenths 56 = .ok (.invokevirtual 183, 3) := by decide +kernel
theorem dX4_netWithTenths_59 : decode cX4_netWithTenths 59 = .ok (.lreturn, 1) := by decide +kernel
