theorem dX5_owesAll_93 : decode cX5_owesAll 93 = .ok (.lsub, 1) := by decide +kernel
theorem dX5_owesAll_94 : decode cX5_owesAll 94 = .ok (.lastore, 1) := by decide +kernel
theorem dX5_owesAll_95 : decode cX5_owesAll 95 = .ok (.iinc 3 1, 3) := by decide +kernel
theorem dX5_owesAll_98 : decode cX5_owesAll 98 = .ok (.goto (-51), 3) := by decide +kernel
theorem dX5_owesAll_101 : decode cX5_owesAll 101 = .ok (.return_, 1) := by decide +kernel
theorem dX5_sharesLives_0 : decode cX5_sharesLives 0 = .ok (.aload_n 0, 1) := by decide +kernel
theorem dX5_sharesLives_1 : decode cX5_sharesLives 1 = .ok (.aload_n 0, 1) := by decide +kernel
theorem dX5_sharesLives_2 : decode cX5_sharesLives 2 = .ok (.getfield 46, 3) := by decide +kernel
theorem dX5_sharesLives_5 : decode cX5_sharesLives 5 = .ok (.invokevirtual 291, 3) := by decide +kernel
theorem dX5_sharesLives_8 : decode cX5_sharesLives 8 = .ok (.aload_n 0, 1) := by decide +kernel
theorem dX5_sharesLives_9 : decode cX5_sharesLives 9 = .ok (.getfield 17, 3) := by decide +kernel
theorem dX5_sharesLives_12 : decode cX5_sharesLives 12 = .ok (.iload_n 1, 1) := by decide +kernel
theorem dX5_sharesLives_13 : decode cX5_sharesLives 13 = .ok (.bipush 6, 2) := by decide +kernel
theorem dX5_sharesLives_15 : decode cX5_sharesLives 15 = .ok (.invokestatic 298, 3) := by decide +kernel
theorem dX5_sharesLives_18 : decode cX5_sharesLives 18 = .ok (.lstore_n 2, 1) := by decide +kernel
theorem dX5_sharesLives_19 : decode cX5_sharesLives 19 = .ok (.iconst 0, 1) := by decide +kernel
theorem dX5_sharesLives_20 : decode cX5_sharesLives 20 = .ok (.istore 4, 2) := by decide +kernel
theorem dX5_sharesLives_22 : decode cX5_sharesLives 22 = .ok (.iload 4, 2) := by decide +kernel
theorem dX5_sharesLives_24 : decode cX5_sharesLives 24 = .ok (.iconst 2, 1) := by decide +kernel
theorem dX5_sharesLives_25 : decode cX5_sharesLives 25 = .ok (.if_icmp .ge 22, 3) := by decide +kernel
theorem dX5_sharesLives_28 : decode cX5_sharesLives 28 = .ok (.aload_n 0, 1) := by decide +kernel
theorem dX5_sharesLives_29 : decode cX5_sharesLives 29 = .ok (.iload_n 1, 1) := by decide +kernel
theorem dX5_sharesLives_30 : decode cX5_sharesLives 30 = .ok (.iload 4, 2) := by decide +kernel
theorem dX5_sharesLives_32 : decode cX5_sharesLives 32 = .ok (.invokevirtual 301, 3) := by decide +kernel
theorem dX5_sharesLives_35 : decode cX5_sharesLives 35 = .ok (.aload_n 0, 1) := by decide +kernel
theorem dX5_sharesLives_36 : decode cX5_sharesLives 36 = .ok (.lload_n 2, 1) := by decide +kernel
theorem dX5_sharesLives_37 : decode cX5_sharesLives 37 = .ok (.invokevirtual 305, 3) := by decide +kernel
theorem dX5_sharesLives_40 : decode cX5_sharesLives 40 = .ok (.lstore_n 2, 1) := by decide +kernel
theorem dX5_sharesLives_41 : decode cX5_sharesLives 41 = .ok (.iinc 4 1, 3) := by decide +kernel
theorem dX5_sharesLives_44 : decode cX5_sharesLives 44 = .ok (.goto (-22), 3) := by decide +kernel
theorem dX5_sharesLives_47 : decode cX5_sharesLives 47 = .ok (.return_, 1) := by decide +kernel
theorem dX5_paysOne_0 : decode cX5_paysOne 0 = .ok (.aload_n 0, 1) := by decide +kernel
theorem dX5_paysOne_1 : decode cX5_paysOne 1 = .ok (.getfield 17, 3) := by decide +kernel
theorem dX5_paysOne_4 : decode cX5_paysOne 4 = .ok (.iload_n 1, 1) := by decide +kernel
theorem dX5_paysOne_5 : decode cX5_paysOne 5 = .ok (.iconst 5, 1) := by decide +kernel
theorem dX5_paysOne_6 : decode cX5_paysOne 6 = .ok (.invokestatic 243, 3) := by decide +kernel
theorem dX5_paysOne_9 : decode cX5_paysOne 9 = .ok (.iconst 1, 1) := by decide +kernel
theorem dX5_paysOne_10 : decode cX5_paysOne 10 = .ok (.if_icmp .ne 82, 3) := by decide +kernel
theorem dX5_paysOne_13 : decode cX5_paysOne 13 = .ok (.aload_n 0, 1) := by decide +kernel
theorem dX5_paysOne_14 : decode cX5_paysOne 14 = .ok (.aload_n 0, 1) := by decide +kernel
theorem dX5_paysOne_15 : decode cX5_paysOne 15 = .ok (.getfield 46, 3) := by decide +kernel
theorem dX5_paysOne_18 : decode cX5_paysOne 18 = .ok (.invokevirtual 291, 3) := by decide +kernel
theorem dX5_paysOne_21 : decode cX5_paysOne 21 = .ok (.iconst 0, 1) := by decide +kernel
theorem dX5_paysOne_22 : decode cX5_paysOne 22 = .ok (.istore_n 2, 1) := by decide +kernel
theorem dX5_paysOne_23 : decode cX5_paysOne 23 = .ok (.iload_n 2, 1) := by decide +kernel
theorem dX5_paysOne_24 : decode cX5_paysOne 24 = .ok (.aload_n 0, 1) := by decide +kernel
theorem dX5_paysOne_25 : decode cX5_paysOne 25 = .ok (.getfield 17, 3) := by decide +kernel
theorem dX5_paysOne_28 : decode cX5_paysOne 28 = .ok (.iconst 0, 1) := by decide +kernel
theorem dX5_paysOne_29 : decode cX5_paysOne 29 = .ok (.iaload, 1) := by decide +kernel
theorem dX5_paysOne_30 : decode cX5_paysOne 30 = .ok (.if_icmp .ge 24, 3) := by decide +kernel
theorem dX5_paysOne_33 : decode cX5_paysOne 33 = .ok (.aload_n 0, 1) := by decide +kernel
theorem dX5_paysOne_34 : decode cX5_paysOne 34 = .ok (.getfield 46, 3) := by decide +kernel
theorem dX5_paysOne_37 : decode cX5_paysOne 37 = .ok (.iload_n 2, 1) := by decide +kernel
theorem dX5_paysOne_38 : decode cX5_paysOne 38 = .ok (.aload_n 0, 1) := by decide +kernel
theorem dX5_paysOne_39 : decode cX5_paysOne 39 = .ok (.getfield 17, 3) := by decide +kernel
theorem dX5_paysOne_42 : decode cX5_paysOne 42 = .ok (.iload_n 1, 1) := by decide +kernel
theorem dX5_paysOne_43 : decode cX5_paysOne 43 = .ok (.iload_n 2, 1) := by decide +kernel
theorem dX5_paysOne_44 : decode cX5_paysOne 44 = .ok (.invokestatic 295, 3) := by decide +kernel
theorem dX5_paysOne_47 : decode cX5_paysOne 47 = .ok (.lastore, 1) := by decide +kernel
theorem dX5_paysOne_48 : decode cX5_paysOne 48 = .ok (.iinc 2 1, 3) := by decide +kernel
theorem dX5_paysOne_51 : decode cX5_paysOne 51 = .ok (.goto (-28), 3) := by decide +kernel
theorem dX5_paysOne_54 : decode cX5_paysOne 54 = .ok (.iconst 0, 1) := by decide +kernel
theorem dX5_paysOne_55 : decode cX5_paysOne 55 = .ok (.istore_n 2, 1) := by decide +kernel
theorem dX5_paysOne_56 : decode cX5_paysOne 56 = .ok (.iload_n 2, 1) := by decide +kernel
theorem dX5_paysOne_57 : decode cX5_paysOne 57 = .ok (.aload_n 0, 1) := by decide +kernel
theorem dX5_paysOne_58 : decode cX5_paysOne 58 = .ok (.getfield 17, 3) := by decide +kernel
theorem dX5_paysOne_61 : decode cX5_paysOne 61 = .ok (.iconst 1, 1) := by decide +kernel
theorem dX5_paysOne_62 : decode cX5_paysOne 62 = .ok (.iaload, 1) := by decide +kernel
theorem dX5_paysOne_63 : decode cX5_paysOne 63 = .ok (.if_icmp .ge 26, 3) := by decide +kernel
theorem dX5_paysOne_66 : decode cX5_paysOne 66 = .ok (.aload_n 0, 1) := by decide +kernel
theorem dX5_paysOne_67 : decode cX5_paysOne 67 = .ok (.getfield 46, 3) := by decide +kernel
theorem dX5_paysOne_70 : decode cX5_paysOne 70 = .ok (.iconst 4, 1) := by decide +kernel
theorem dX5_paysOne_71 : decode cX5_paysOne 71 = .ok (.iload_n 2, 1) := by decide +kernel
theorem dX5_paysOne_72 : decode cX5_paysOne 72 = .ok (.iadd, 1) := by decide +kernel
theorem dX5_paysOne_73 : decode cX5_paysOne 73 = .ok (.aload_n 0, 1) := by decide +kernel
theorem dX5_paysOne_74 : decode cX5_paysOne 74 = .ok (.getfield 17, 3) := by decide +kernel
theorem dX5_paysOne_77 : decode cX5_paysOne 77 = .ok (.iload_n 1, 1) := by decide +kernel
theorem dX5_paysOne_78 : decode cX5_paysOne 78 = .ok (.iload_n 2, 1) := by decide +kernel
theorem dX5_paysOne_79 : decode cX5_paysOne 79 = .ok (.invokestatic 266, 3) := by decide +kernel
theorem dX5_paysOne_82 : decode cX5_paysOne 82 = .ok (.lastore, 1) := by decide +kernel
theorem dX5_paysOne_83 : decode cX5_paysOne 83 = .ok (.iinc 2 1, 3) := by decide +kernel
theorem dX5_paysOne_86 : decode cX5_paysOne 86 = .ok (.goto (-30), 3) := by decide +kernel
theorem dX5_paysOne_89 : decode cX5_paysOne 89 = .ok (.goto 46, 3) := by decide +kernel
theorem dX5_paysOne_92 : decode cX5_paysOne 92 = .ok (.aload_n 0, 1) := by decide +kernel
theorem dX5_paysOne_93 : decode cX5_paysOne 93 = .ok (.iload_n 1, 1) := by decide +kernel
theorem dX5_paysOne_94 : decode cX5_paysOne 94 = .ok (.invokevirtual 309, 3) := by decide +kernel
theorem dX5_paysOne_97 : decode cX5_paysOne 97 = .ok (.aload_n 0, 1) := by decide +kernel
theorem dX5_paysOne_98 : decode cX5_paysOne 98 = .ok (.getfield 17, 3) := by decide +kernel
theorem dX5_paysOne_101 : decode cX5_paysOne 101 = .ok (.iload_n 1, 1) := by decide +kernel
theorem dX5_paysOne_102 : decode cX5_paysOne 102 = .ok (.iconst 5, 1) := by decide +kernel
theorem dX5_paysOne_103 : decode cX5_paysOne 103 = .ok (.invokestatic 298, 3) := by decide +kernel
theorem dX5_paysOne_106 : decode cX5_paysOne 106 = .ok (.lstore_n 2, 1) := by decide +kernel
theorem dX5_paysOne_107 : decode cX5_paysOne 107 = .ok (.iconst 0, 1) := by decide +kernel
theorem dX5_paysOne_108 : decode cX5_paysOne 108 = .ok (.istore 4, 2) := by decide +kernel
theorem dX5_paysOne_110 : decode cX5_paysOne 110 = .ok (.iload 4, 2) := by decide +kernel
theorem dX5_paysOne_112 : decode cX5_paysOne 112 = .ok (.iconst 2, 1) := by decide +kernel
theorem dX5_paysOne_113 : decode cX5_paysOne 113 = .ok (.if_icmp .ge 22, 3) := by decide +kernel
theorem dX5_paysOne_116 : decode cX5_paysOne 116 = .ok (.aload_n 0, 1) := by decide +kernel
theorem dX5_paysOne_117 : decode cX5_paysOne 117 = .ok (.iload_n 1, 1) := by decide +kernel
theorem dX5_paysOne_118 : decode cX5_paysOne 118 = .ok (.iload 4, 2) := by decide +kernel
theorem dX5_paysOne_120 : decode cX5_paysOne 120 = .ok (.invokevirtual 312, 3) := by decide +kernel
theorem dX5_paysOne_123 : decode cX5_paysOne 123 = .ok (.aload_n 0, 1) := by decide +kernel
theorem dX5_paysOne_124 : decode cX5_paysOne 124 = .ok (.lload_n 2, 1) := by decide +kernel
theorem dX5_paysOne_125 : decode cX5_paysOne 125 = .ok (.invokevirtual 305, 3) := by decide +kernel
theorem dX5_paysOne_128 : decode cX5_paysOne 128 = .ok (.lstore_n 2, 1) := by decide +kernel
theorem dX5_paysOne_129 : decode cX5_paysOne 129 = .ok (.iinc 4 1, 3) := by decide +kernel
theorem dX5_paysOne_132 : decode cX5_paysOne 132 = .ok (.goto (-22), 3) := by decide +kernel
theorem dX5_paysOne_135 : decode cX5_paysOne 135 = .ok (.iconst 0, 1) := by decide +kernel
theorem dX5_paysOne_136 : decode cX5_paysOne 136 = .ok (.istore_n 2, 1) := by decide +kernel
theorem dX5_paysOne_137 : decode cX5_paysOne 137 = .ok (.iload_n 2, 1) := by decide +kernel
theorem dX5_paysOne_138 : decode cX5_paysOne 138 = .ok (.bipush 16, 2) := by decide +kernel
theorem dX5_paysOne_140 : decode cX5_paysOne 140 = .ok (.if_icmp .ge 26, 3) := by decide +kernel
theorem dX5_paysOne_143 : decode cX5_paysOne 143 = .ok (.aload_n 0, 1) := by decide +kernel
theorem dX5_paysOne_144 : decode cX5_paysOne 144 = .ok (.getfield 49, 3) := by decide +kernel
theorem dX5_paysOne_147 : decode cX5_paysOne 147 = .ok (.bipush 16, 2) := by decide +kernel
theorem dX5_paysOne_149 : decode cX5_paysOne 149 = .ok (.iload_n 1, 1) := by decide +kernel
theorem dX5_paysOne_150 : decode cX5_paysOne 150 = .ok (.imul, 1) := by decide +kernel
theorem dX5_paysOne_151 : decode cX5_paysOne 151 = .ok (.iload_n 2, 1) := by decide +kernel
theorem dX5_paysOne_152 : decode cX5_paysOne 152 = .ok (.iadd, 1) := by decide +kernel
theorem dX5_paysOne_153 : decode cX5_paysOne 153 = .ok (.aload_n 0, 1) := by decide +kernel
theorem dX5_paysOne_154 : decode cX5_paysOne 154 = .ok (.getfield 46, 3) := by decide +kernel
theorem dX5_paysOne_157 : decode cX5_paysOne 157 = .ok (.iload_n 2, 1) := by decide +kernel
theorem dX5_paysOne_158 : decode cX5_paysOne 158 = .ok (.laload, 1) := by decide +kernel
theorem dX5_paysOne_159 : decode cX5_paysOne 159 = .ok (.lastore, 1) := by decide +kernel
theorem dX5_paysOne_160 : decode cX5_paysOne 160 = .ok (.iinc 2 1, 3) := by decide +kernel
theorem dX5_paysOne_163 : decode cX5_paysOne 163 = .ok (.goto (-26), 3) := by decide +kernel
theorem dX5_paysOne_166 : decode cX5_paysOne 166 = .ok (.return_, 1) := by decide +kernel
theorem dX5_paysAll_0 : decode cX5_paysAll 0 = .ok (.iconst 0, 1) := by decide +kernel
theorem dX5_paysAll_1 : decode cX5_paysAll 1 = .ok (.istore_n 1, 1) := by decide +kernel
theorem dX5_paysAll_2 : decode cX5_paysAll 2 = .ok (.iload_n 1, 1) := by decide +kernel
theorem dX5_paysAll_3 : decode cX5_paysAll 3 = .ok (.aload_n 0, 1) := by decide +kernel
theorem dX5_paysAll_4 : decode cX5_paysAll 4 = .ok (.getfield 17, 3) := by decide +kernel
theorem dX5_paysAll_7 : decode cX5_paysAll 7 = .ok (.iconst 0, 1) := by decide +kernel
theorem dX5_paysAll_8 : decode cX5_paysAll 8 = .ok (.iaload, 1) := by decide +kernel
theorem dX5_paysAll_9 : decode cX5_paysAll 9 = .ok (.if_icmp .ge 14, 3) := by decide +kernel
theorem dX5_paysAll_12 : decode cX5_paysAll 12 = .ok (.aload_n 0, 1) := by decide +kernel
theorem dX5_paysAll_13 : decode cX5_paysAll 13 = .ok (.iload_n 1, 1) := by decide +kernel
theorem dX5_paysAll_14 : decode cX5_paysAll 14 = .ok (.invokevirtual 315, 3) := by decide +kernel
theorem dX5_paysAll_17 : decode cX5_paysAll 17 = .ok (.iinc 1 1, 3) := by decide +kernel
theorem dX5_paysAll_20 : decode cX5_paysAll 20 = .ok (.goto (-18), 3) := by decide +kernel
theorem dX5_paysAll_23 : decode cX5_paysAll 23 = .ok (.return_, 1) := by decide +kernel
theorem dX5_lays_0 : decode cX5_lays 0 = .ok (.iconst 0, 1) := by decide +kernel
theorem dX5_lays_1 : decode cX5_lays 1 = .ok (.istore_n 1, 1) := by decide +kernel
theorem dX5_lays_2 : decode cX5_lays 2 = .ok (.iload_n 1, 1) := by decide +kernel
theorem dX5_lays_3 : decode cX5_lays 3 = .ok (.bipush 82, 2) := by decide +kernel
theorem dX5_lays_5 : decode cX5_lays 5 = .ok (.if_icmp .ge 21, 3) := by decide +kernel
theorem dX5_lays_8 : decode cX5_lays 8 = .ok (.aload_n 0, 1) := by decide +kernel
theorem dX5_lays_9 : decode cX5_lays 9 = .ok (.getfield 17, 3) := by decide +kernel
theorem dX5_lays_12 : decode cX5_lays 12 = .ok (.iload_n 1, 1) := by decide +kernel
theorem dX5_lays_13 : decode cX5_lays 13 = .ok (.aload_n 0, 1) := by decide +kernel
theorem dX5_lays_14 : decode cX5_lays 14 = .ok (.getfield 13, 3) := by decide +kernel
theorem dX5_lays_17 : decode cX5_lays 17 = .ok (.iload_n 1, 1) := by decide +kernel
theorem dX5_lays_18 : decode cX5_lays 18 = .ok (.iaload, 1) := by decide +kernel
theorem dX5_lays_19 : decode cX5_lays 19 = .ok (.iastore, 1) := by decide +kernel
theorem dX5_lays_20 : decode cX5_lays 20 = .ok (.iinc 1 1, 3) := by decide +kernel
theorem dX5_lays_23 : decode cX5_lays 23 = .ok (.goto (-21), 3) := by decide +kernel
theorem dX5_lays_26 : decode cX5_lays 26 = .ok (.return_, 1) := by decide +kernel
theorem dX5_laysPaid_0 : decode cX5_laysPaid 0 = .ok (.aload_n 0, 1) := by decide +kernel
theorem dX5_laysPaid_1 : decode cX5_laysPaid 1 = .ok (.invokevirtual 318, 3) := by decide +kernel
theorem dX5_laysPaid_4 : decode cX5_laysPaid 4 = .ok (.aload_n 0, 1) := by decide +kernel
theorem dX5_laysPaid_5 : decode cX5_laysPaid 5 = .ok (.invokevirtual 321, 3) := by decide +kernel
theorem dX5_laysPaid_8 : decode cX5_laysPaid 8 = .ok (.return_, 1) := by decide +kernel
theorem dX5_paidTo_0 : decode cX5_paidTo 0 = .ok (.lconst 0, 1) := by decide +kernel
theorem dX5_paidTo_1 : decode cX5_paidTo 1 = .ok (.lstore_n 2, 1) := by decide +kernel
theorem dX5_paidTo_2 : decode cX5_paidTo 2 = .ok (.iconst 0, 1) := by decide +kernel
theorem dX5_paidTo_3 : decode cX5_paidTo 3 = .ok (.istore 4, 2) := by decide +kernel
theorem dX5_paidTo_5 : decode cX5_paidTo 5 = .ok (.iload 4, 2) := by decide +kernel
theorem dX5_paidTo_7 : decode cX5_paidTo 7 = .ok (.aload_n 0, 1) := by decide +kernel
theorem dX5_paidTo_8 : decode cX5_paidTo 8 = .ok (.getfield 17, 3) := by decide +kernel
theorem dX5_paidTo_11 : decode cX5_paidTo 11 = .ok (.iconst 0, 1) := by decide +kernel
theorem dX5_paidTo_12 : decode cX5_paidTo 12 = .ok (.iaload, 1) := by decide +kernel
theorem dX5_paidTo_13 : decode cX5_paidTo 13 = .ok (.if_icmp .ge 26, 3) := by decide +kernel
theorem dX5_paidTo_16 : decode cX5_paidTo 16 = .ok (.lload_n 2, 1) := by decide +kernel
theorem dX5_paidTo_17 : decode cX5_paidTo 17 = .ok (.aload_n 0, 1) := by decide +kernel
theorem dX5_paidTo_18 : decode cX5_paidTo 18 = .ok (.getfield 49, 3) := by decide +kernel
theorem dX5_paidTo_21 : decode cX5_paidTo 21 = .ok (.bipush 16, 2) := by decide +kernel
theorem dX5_paidTo_23 : decode cX5_paidTo 23 = .ok (.iload 4, 2) := by decide +kernel
theorem dX5_paidTo_25 : decode cX5_paidTo 25 = .ok (.imul, 1) := by decide +kernel
theorem dX5_paidTo_26 : decode cX5_paidTo 26 = .ok (.iconst 4, 1) := by decide +kernel
theorem dX5_paidTo_27 : decode cX5_paidTo 27 = .ok (.iadd, 1) := by decide +kernel
theorem dX5_paidTo_28 : decode cX5_paidTo 28 = .ok (.iload_n 1, 1) := by decide +kernel
theorem dX5_paidTo_29 : decode cX5_paidTo 29 = .ok (.iadd, 1) := by decide +kernel
theorem dX5_paidTo_30 : decode cX5_paidTo 30 = .ok (.laload, 1) := by decide +kernel
theorem dX5_paidTo_31 : decode cX5_paidTo 31 = .ok (.ladd, 1) := by decide +kernel
theorem dX5_paidTo_32 : decode cX5_paidTo 32 = .ok (.lstore_n 2, 1) := by decide +kernel
theorem dX5_paidTo_33 : decode cX5_paidTo 33 = .ok (.iinc 4 1, 3) := by decide +kernel
theorem dX5_paidTo_36 : decode cX5_paidTo 36 = .ok (.goto (-31), 3) := by decide +kernel
theorem dX5_paidTo_39 : decode cX5_paidTo 39 = .ok (.lload_n 2, 1) := by decide +kernel
theorem dX5_paidTo_40 : decode cX5_paidTo 40 = .ok (.lreturn, 1) := by decide +kernel
theorem dX5_givenOf_0 : decode cX5_givenOf 0 = .ok (.aload_n 0, 1) := by decide +kernel
theorem dX5_givenOf_1 : decode cX5_givenOf 1 = .ok (.getfield 17, 3) := by decide +kernel
theorem dX5_givenOf_4 : decode cX5_givenOf 4 = .ok (.iload_n 1, 1) := by decide +kernel
theorem dX5_givenOf_5 : decode cX5_givenOf 5 = .ok (.iconst 1, 1) := by decide +kernel
theorem dX5_givenOf_6 : decode cX5_givenOf 6 = .ok (.invokestatic 255, 3) := by decide +kernel
theorem dX5_givenOf_9 : decode cX5_givenOf 9 = .ok (.istore_n 2, 1) := by decide +kernel
theorem dX5_givenOf_10 : decode cX5_givenOf 10 = .ok (.aload_n 0, 1) := by decide +kernel
theorem dX5_givenOf_11 : decode cX5_givenOf 11 = .ok (.getfield 17, 3) := by decide +kernel
theorem dX5_givenOf_14 : decode cX5_givenOf 14 = .ok (.iload_n 1, 1) := by decide +kernel
theorem dX5_givenOf_15 : decode cX5_givenOf 15 = .ok (.iconst 0, 1) := by decide +kernel
theorem dX5_givenOf_16 : decode cX5_givenOf 16 = .ok (.invokestatic 255, 3) := by decide +kernel
theorem dX5_givenOf_19 : decode cX5_givenOf 19 = .ok (.ifCond .ne 15, 3) := by decide +kernel
theorem dX5_givenOf_22 : decode cX5_givenOf 22 = .ok (.aload_n 0, 1) := by decide +kernel
theorem dX5_givenOf_23 : decode cX5_givenOf 23 = .ok (.getfield 17, 3) := by decide +kernel
theorem dX5_givenOf_26 : decode cX5_givenOf 26 = .ok (.iload_n 2, 1) := by decide +kernel
theorem dX5_givenOf_27 : decode cX5_givenOf 27 = .ok (.iconst 4, 1) := by decide +kernel
theorem dX5_givenOf_28 : decode cX5_givenOf 28 = .ok (.invokestatic 243, 3) := by decide +kernel
theorem dX5_givenOf_31 : decode cX5_givenOf 31 = .ok (.ifCond .ne 5, 3) := by decide +kernel
theorem dX5_givenOf_34 : decode cX5_givenOf 34 = .ok (.lconst 0, 1) := by decide +kernel
theorem dX5_givenOf_35 : decode cX5_givenOf 35 = .ok (.lreturn, 1) := by decide +kernel
theorem dX5_givenOf_36 : decode cX5_givenOf 36 = .ok (.aload_n 0, 1) := by decide +kernel
theorem dX5_givenOf_37 : decode cX5_givenOf 37 = .ok (.getfield 17, 3) := by decide +kernel
theorem dX5_givenOf_40 : decode cX5_givenOf 40 = .ok (.iload_n 1, 1) := by decide +kernel
theorem dX5_givenOf_41 : decode cX5_givenOf 41 = .ok (.invokestatic 324, 3) := by decide +kernel
theorem dX5_givenOf_44 : decode cX5_givenOf 44 = .ok (.aload_n 0, 1) := by decide +kernel
theorem dX5_givenOf_45 : decode cX5_givenOf 45 = .ok (.iload_n 1, 1) := by decide +kernel
theorem dX5_givenOf_46 : decode cX5_givenOf 46 = .ok (.invokevirtual 328, 3) := by decide +kernel
theorem dX5_givenOf_49 : decode cX5_givenOf 49 = .ok (.invokestatic 282, 3) := by decide +kernel
theorem dX5_givenOf_52 : decode cX5_givenOf 52 = .ok (.lreturn, 1) := by decide +kernel
theorem dX5_paidBy_0 : decode cX5_paidBy 0 = .ok (.lconst 0, 1) := by decide +kernel
theorem dX5_paidBy_1 : decode cX5_paidBy 1 = .ok (.lstore_n 2, 1) := by decide +kernel
theorem dX5_paidBy_2 : decode cX5_paidBy 2 = .ok (.iconst 0, 1) := by decide +kernel
theorem dX5_paidBy_3 : decode cX5_paidBy 3 = .ok (.istore 4, 2) := by decide +kernel
theorem dX5_paidBy_5 : decode cX5_paidBy 5 = .ok (.iload 4, 2) := by decide +kernel
theorem dX5_paidBy_7 : decode cX5_paidBy 7 = .ok (.bipush 16, 2) := by decide +kernel
theorem dX5_paidBy_9 : decode cX5_paidBy 9 = .ok (.if_icmp .ge 24, 3) := by decide +kernel
theorem dX5_paidBy_12 : decode cX5_paidBy 12 = .ok (.lload_n 2, 1) := by decide +kernel
theorem dX5_paidBy_13 : decode cX5_paidBy 13 = .ok (.aload_n 0, 1) := by decide +kernel
theorem dX5_paidBy_14 : decode cX5_paidBy 14 = .ok (.getfield 49, 3) := by decide +kernel
theorem dX5_paidBy_17 : decode cX5_paidBy 17 = .ok (.bipush 16, 2) := by decide +kernel
theorem dX5_paidBy_19 : decode cX5_paidBy 19 = .ok (.iload_n 1, 1) := by decide +kernel
theorem dX5_paidBy_20 : decode cX5_paidBy 20 = .ok (.imul, 1) := by decide +kernel
theorem dX5_paidBy_21 : decode cX5_paidBy 21 = .ok (.iload 4, 2) := by decide +kernel
theorem dX5_paidBy_23 : decode cX5_paidBy 23 = .ok (.iadd, 1) := by decide +kernel
theorem dX5_paidBy_24 : decode cX5_paidBy 24 = .ok (.laload, 1) := by decide +kernel
theorem dX5_paidBy_25 : decode cX5_paidBy 25 = .ok (.ladd, 1) := by decide +kernel
theorem dX5_paidBy_26 : decode cX5_paidBy 26 = .ok (.lstore_n 2, 1) := by decide +kernel
theorem dX5_paidBy_27 : decode cX5_paidBy 27 = .ok (.iinc 4 1, 3) := by decide +kernel
theorem dX5_paidBy_30 : decode cX5_paidBy 30 = .ok (.goto (-25), 3) := by decide +kernel
theorem dX5_paidBy_33 : decode cX5_paidBy 33 = .ok (.lload_n 2, 1) := by decide +kernel
theorem dX5_paidBy_34 : decode cX5_paidBy 34 = .ok (.lreturn, 1) := by decide +kernel
theorem dX5_netOf_0 : decode cX5_netOf 0 = .ok (.aload_n 0, 1) := by decide +kernel
theorem dX5_netOf_1 : decode cX5_netOf 1 = .ok (.iload_n 1, 1) := by decide +kernel
theorem dX5_netOf_2 : decode cX5_netOf 2 = .ok (.invokevirtual 331, 3) := by decide +kernel
theorem dX5_netOf_5 : decode cX5_netOf 5 = .ok (.lneg, 1) := by decide +kernel
theorem dX5_netOf_6 : decode cX5_netOf 6 = .ok (.aload_n 0, 1) := by decide +kernel
theorem dX5_netOf_7 : decode cX5_netOf 7 = .ok (.getfield 17, 3) := by decide +kernel
theorem dX5_netOf_10 : decode cX5_netOf 10 = .ok (.iload_n 1, 1) := by decide +kernel
theorem dX5_netOf_11 : decode cX5_netOf 11 = .ok (.iconst 2, 1) := by decide +kernel
theorem dX5_netOf_12 : decode cX5_netOf 12 = .ok (.invokestatic 243, 3) := by decide +kernel
theorem dX5_netOf_15 : decode cX5_netOf 15 = .ok (.i2l, 1) := by decide +kernel
theorem dX5_netOf_16 : decode cX5_netOf 16 = .ok (.lsub, 1) := by decide +kernel
theorem dX5_netOf_17 : decode cX5_netOf 17 = .ok (.lstore_n 2, 1) := by decide +kernel
theorem dX5_netOf_18 : decode cX5_netOf 18 = .ok (.iconst 0, 1) := by decide +kernel
theorem dX5_netOf_19 : decode cX5_netOf 19 = .ok (.istore 4, 2) := by decide +kernel
theorem dX5_netOf_21 : decode cX5_netOf 21 = .ok (.iload 4, 2) := by decide +kernel
theorem dX5_netOf_23 : decode cX5_netOf 23 = .ok (.aload_n 0, 1) := by decide +kernel
theorem dX5_netOf_24 : decode cX5_netOf 24 = .ok (.getfield 17, 3) := by decide +kernel
theorem dX5_netOf_27 : decode cX5_netOf 27 = .ok (.iconst 0, 1) := by decide +kernel
theorem dX5_netOf_28 : decode cX5_netOf 28 = .ok (.iaload, 1) := by decide +kernel
theorem dX5_netOf_29 : decode cX5_netOf 29 = .ok (.if_icmp .ge 24, 3) := by decide +kernel
theorem dX5_netOf_32 : decode cX5_netOf 32 = .ok (.lload_n 2, 1) := by decide +kernel
theorem dX5_netOf_33 : decode cX5_netOf 33 = .ok (.aload_n 0, 1) := by decide +kernel
theorem dX5_netOf_34 : decode cX5_netOf 34 = .ok (.getfield 49, 3) := by decide +kernel
theorem dX5_netOf_37 : decode cX5_netOf 37 = .ok (.bipush 16, 2) := by decide +kernel
theorem dX5_netOf_39 : decode cX5_netOf 39 = .ok (.iload 4, 2) := by decide +kernel
theorem dX5_netOf_41 : decode cX5_netOf 41 = .ok (.imul, 1) := by decide +kernel
theorem dX5_netOf_42 : decode cX5_netOf 42 = .ok (.iload_n 1, 1) := by decide +kernel
theorem dX5_netOf_43 : decode cX5_netOf 43 = .ok (.iadd, 1) := by decide +kernel
theorem dX5_netOf_44 : decode cX5_netOf 44 = .ok (.laload, 1) := by decide +kernel
theorem dX5_netOf_45 : decode cX5_netOf 45 = .ok (.ladd, 1) := by decide +kernel
theorem dX5_netOf_46 : decode cX5_netOf 46 = .ok (.lstore_n 2, 1) := by decide +kernel
theorem dX5_netOf_47 : decode cX5_netOf 47 = .ok (.iinc 4 1, 3) := by decide +kernel
theorem dX5_netOf_50 : decode cX5_netOf 50 = .ok (.goto (-29), 3) := by decide +kernel
theorem dX5_netOf_53 : decode cX5_netOf 53 = .ok (.iconst 0, 1) := by decide +kernel
theorem dX5_netOf_54 : decode cX5_netOf 54 = .ok (.istore 4, 2) := by decide +kernel
theorem dX5_netOf_56 : decode cX5_netOf 56 = .ok (.iload 4, 2) := by decide +kernel
theorem dX5_netOf_58 : decode cX5_netOf 58 = .ok (.aload_n 0, 1) := by decide +kernel
theorem dX5_netOf_59 : decode cX5_netOf 59 = .ok (.getfield 17, 3) := by decide +kernel
theorem dX5_netOf_62 : decode cX5_netOf 62 = .ok (.iconst 1, 1) := by decide +kernel
theorem dX5_netOf_63 : decode cX5_netOf 63 = .ok (.iaload, 1) := by decide +kernel
theorem dX5_netOf_64 : decode cX5_netOf 64 = .ok (.if_icmp .ge 36, 3) := by decide +kernel
theorem dX5_netOf_67 : decode cX5_netOf 67 = .ok (.lload_n 2, 1) := by decide +kernel
theorem dX5_netOf_68 : decode cX5_netOf 68 = .ok (.aload_n 0, 1) := by decide +kernel
theorem dX5_netOf_69 : decode cX5_netOf 69 = .ok (.getfield 17, 3) := by decide +kernel
theorem dX5_netOf_72 : decode cX5_netOf 72 = .ok (.iload 4, 2) := by decide +kernel
theorem dX5_netOf_74 : decode cX5_netOf 74 = .ok (.iconst 1, 1) := by decide +kernel
theorem dX5_netOf_75 : decode cX5_netOf 75 = .ok (.invokestatic 255, 3) := by decide +kernel
theorem dX5_netOf_78 : decode cX5_netOf 78 = .ok (.iload_n 1, 1) := by decide +kernel
theorem dX5_netOf_79 : decode cX5_netOf 79 = .ok (.if_icmp .ne 12, 3) := by decide +kernel
theorem dX5_netOf_82 : decode cX5_netOf 82 = .ok (.aload_n 0, 1) := by decide +kernel
theorem dX5_netOf_83 : decode cX5_netOf 83 = .ok (.iload 4, 2) := by decide +kernel
theorem dX5_netOf_85 : decode cX5_netOf 85 = .ok (.invokevirtual 334, 3) := by decide +kernel
theorem dX5_netOf_88 : decode cX5_netOf 88 = .ok (.goto 4, 3) := by decide +kernel
theorem dX5_netOf_91 : decode cX5_netOf 91 = .ok (.lconst 0, 1) := by decide +kernel
theorem dX5_netOf_92 : decode cX5_netOf 92 = .ok (.ladd, 1) := by decide +kernel
theorem dX5_netOf_93 : decode cX5_netOf 93 = .ok (.lstore_n 2, 1) := by decide +kernel
theorem dX5_netOf_94 : decode cX5_netOf 94 = .ok (.iinc 4 1, 3) := by decide +kernel
theorem dX5_netOf_97 : decode cX5_netOf 97 = .ok (.goto (-41), 3) := by decide +kernel
theorem dX5_netOf_100 : decode cX5_netOf 100 = .ok (.lload_n 2, 1) := by decide +kernel
theorem dX5_netOf_101 : decode cX5_netOf 101 = .ok (.lreturn, 1) := by decide +kernel
theorem dX5_part_0 : decode cX5_part 0 = .ok (.aload_n 0, 1) := by decide +kernel
theorem dX5_part_1 : decode cX5_part 1 = .ok (.invokevirtual 212, 3) := by decide +kernel
theorem dX5_part_4 : decode cX5_part 4 = .ok (.aload_n 0, 1) := by decide +kernel
theorem dX5_part_5 : decode cX5_part 5 = .ok (.aload_n 0, 1) := by decide +kernel
theorem dX5_part_6 : decode cX5_part 6 = .ok (.iload_n 1, 1) := by decide +kernel
theorem dX5_part_7 : decode cX5_part 7 = .ok (.invokevirtual 234, 3) := by decide +kernel
theorem dX5_part_10 : decode cX5_part 10 = .ok (.ifCond .ne 7, 3) := by decide +kernel
theorem dX5_part_13 : decode cX5_part 13 = .ok (.iconst 1, 1) := by decide +kernel
theorem dX5_part_14 : decode cX5_part 14 = .ok (.goto 4, 3) := by decide +kernel
theorem dX5_part_17 : decode cX5_part 17 = .ok (.iconst 0, 1) := by decide +kernel
theorem dX5_part_18 : decode cX5_part 18 = .ok (.iconst 1, 1) := by decide +kernel
theorem dX5_part_19 : decode cX5_part 19 = .ok (.invokevirtual 215, 3) := by decide +kernel
theorem dX5_part_22 : decode cX5_part 22 = .ok (.ifCond .ne 28, 3) := by decide +kernel
theorem dX5_part_25 : decode cX5_part 25 = .ok (.aload_n 0, 1) := by decide +kernel
theorem dX5_part_26 : decode cX5_part 26 = .ok (.iload_n 2, 1) := by decide +kernel
theorem dX5_part_27 : decode cX5_part 27 = .ok (.i2l, 1) := by decide +kernel
theorem dX5_part_28 : decode cX5_part 28 = .ok (.lconst 0, 1) := by decide +kernel
theorem dX5_part_29 : decode cX5_part 29 = .ok (.ldc2_w 337, 3) := by decide +kernel
theorem dX5_part_32 : decode cX5_part 32 = .ok (.invokestatic 161, 3) := by decide +kernel
theorem dX5_part_35 : decode cX5_part 35 = .ok (.ifCond .ne 7, 3) := by decide +kernel
theorem dX5_part_38 : decode cX5_part 38 = .ok (.iconst 1, 1) := by decide +kernel
theorem dX5_part_39 : decode cX5_part 39 = .ok (.goto 4, 3) := by decide +kernel
theorem dX5_part_42 : decode cX5_part 42 = .ok (.iconst 0, 1) := by decide +kernel
theorem dX5_part_43 : decode cX5_part 43 = .ok (.iconst 2, 1) := by decide +kernel
theorem dX5_part_44 : decode cX5_part 44 = .ok (.invokevirtual 215, 3) := by decide +kernel
theorem dX5_part_47 : decode cX5_part 47 = .ok (.ifCond .eq 5, 3) := by decide +kernel
theorem dX5_part_50 : decode cX5_part 50 = .ok (.iconst (-1), 1) := by decide +kernel
theorem dX5_part_51 : decode cX5_part 51 = .ok (.ireturn, 1) := by decide +kernel
theorem dX5_part_52 : decode cX5_part 52 = .ok (.aload_n 0, 1) := by decide +kernel
theorem dX5_part_53 : decode cX5_part 53 = .ok (.getfield 13, 3) := by decide +kernel
theorem dX5_part_56 : decode cX5_part 56 = .ok (.iload_n 1, 1) := by decide +kernel
theorem dX5_part_57 : decode cX5_part 57 = .ok (.iload_n 2, 1) := by decide +kernel
theorem dX5_part_58 : decode cX5_part 58 = .ok (.i2l, 1) := by decide +kernel
theorem dX5_part_59 : decode cX5_part 59 = .ok (.invokestatic 262, 3) := by decide +kernel
theorem dX5_part_62 : decode cX5_part 62 = .ok (.l2i, 1) := by decide +kernel
theorem dX5_part_63 : decode cX5_part 63 = .ok (.ireturn, 1) := by decide +kernel
theorem dX5_owes_0 : decode cX5_owes 0 = .ok (.aload_n 0, 1) := by decide +kernel
theorem dX5_owes_1 : decode cX5_owes 1 = .ok (.invokevirtual 212, 3) := by decide +kernel
theorem dX5_owes_4 : decode cX5_owes 4 = .ok (.aload_n 0, 1) := by decide +kernel
theorem dX5_owes_5 : decode cX5_owes 5 = .ok (.aload_n 0, 1) := by decide +kernel
theorem dX5_owes_6 : decode cX5_owes 6 = .ok (.iload_n 1, 1) := by decide +kernel
theorem dX5_owes_7 : decode cX5_owes 7 = .ok (.invokevirtual 234, 3) := by decide +kernel
theorem dX5_owes_10 : decode cX5_owes 10 = .ok (.ifCond .eq 11, 3) := by decide +kernel
theorem dX5_owes_13 : decode cX5_owes 13 = .ok (.aload_n 0, 1) := by decide +kernel
theorem dX5_owes_14 : decode cX5_owes 14 = .ok (.iload_n 2, 1) := by decide +kernel
theorem dX5_owes_15 : decode cX5_owes 15 = .ok (.invokevirtual 247, 3) := by decide +kernel
theorem dX5_owes_18 : decode cX5_owes 18 = .ok (.ifCond .ne 7, 3) := by decide +kernel
theorem dX5_owes_21 : decode cX5_owes 21 = .ok (.iconst 1, 1) := by decide +kernel
theorem dX5_owes_22 : decode cX5_owes 22 = .ok (.goto 4, 3) := by decide +kernel
theorem dX5_owes_25 : decode cX5_owes 25 = .ok (.iconst 0, 1) := by decide +kernel
theorem dX5_owes_26 : decode cX5_owes 26 = .ok (.iconst 1, 1) := by decide +kernel
theorem dX5_owes_27 : decode cX5_owes 27 = .ok (.invokevirtual 215, 3) := by decide +kernel
theorem dX5_owes_30 : decode cX5_owes 30 = .ok (.ifCond .eq 5, 3) := by decide +kernel
theorem dX5_owes_33 : decode cX5_owes 33 = .ok (.iconst (-1), 1) := by decide +kernel
theorem dX5_owes_34 : decode cX5_owes 34 = .ok (.ireturn, 1) := by decide +kernel
theorem dX5_owes_35 : decode cX5_owes 35 = .ok (.aload_n 0, 1) := by decide +kernel
theorem dX5_owes_36 : decode cX5_owes 36 = .ok (.getfield 13, 3) := by decide +kernel
theorem dX5_owes_39 : decode cX5_owes 39 = .ok (.iload_n 1, 1) := by decide +kernel
theorem dX5_owes_40 : decode cX5_owes 40 = .ok (.iload_n 2, 1) := by decide +kernel
theorem dX5_owes_41 : decode cX5_owes 41 = .ok (.invokestatic 266, 3) := by decide +kernel
theorem dX5_owes_44 : decode cX5_owes 44 = .ok (.l2i, 1) := by decide +kernel
theorem dX5_owes_45 : decode cX5_owes 45 = .ok (.ireturn, 1) := by decide +kernel
theorem dX5_between_0 : decode cX5_between 0 = .ok (.aload_n 0, 1) := by decide +kernel
theorem dX5_between_1 : decode cX5_between 1 = .ok (.invokevirtual 212, 3) := by decide +kernel
theorem dX5_between_4 : decode cX5_between 4 = .ok (.aload_n 0, 1) := by decide +kernel
theorem dX5_between_5 : decode cX5_between 5 = .ok (.aload_n 0, 1) := by decide +kernel
theorem dX5_between_6 : decode cX5_between 6 = .ok (.iload_n 1, 1) := by decide +kernel
theorem dX5_between_7 : decode cX5_between 7 = .ok (.invokevirtual 234, 3) := by decide +kernel
theorem dX5_between_10 : decode cX5_between 10 = .ok (.ifCond .eq 23, 3) := by decide +kernel
theorem dX5_between_13 : decode cX5_between 13 = .ok (.aload_n 0, 1) := by decide +kernel
theorem dX5_between_14 : decode cX5_between 14 = .ok (.iload_n 2, 1) := by decide +kernel
theorem dX5_between_15 : decode cX5_between 15 = .ok (.invokevirtual 234, 3) := by decide +kernel
theorem dX5_between_18 : decode cX5_between 18 = .ok (.ifCond .eq 15, 3) := by decide +kernel
theorem dX5_between_21 : decode cX5_between 21 = .ok (.iload_n 3, 1) := by decide +kernel
theorem dX5_between_22 : decode cX5_between 22 = .ok (.i2l, 1) := by decide +kernel
theorem dX5_between_23 : decode cX5_between 23 = .ok (.lconst 0, 1) := by decide +kernel
theorem dX5_between_24 : decode cX5_between 24 = .ok (.ldc2_w 339, 3) := by decide +kernel
theorem dX5_between_27 : decode cX5_between 27 = .ok (.invokestatic 161, 3) := by decide +kernel
theorem dX5_between_30 : decode cX5_between 30 = .ok (.ifCond .ne 7, 3) := by decide +kernel
theorem dX5_between_33 : decode cX5_between 33 = .ok (.iconst 1, 1) := by decide +kernel
theorem dX5_between_34 : decode cX5_between 34 = .ok (.goto 4, 3) := by decide +kernel
theorem dX5_between_37 : decode cX5_between 37 = .ok (.iconst 0, 1) := by decide +kernel
theorem dX5_between_38 : decode cX5_between 38 = .ok (.iconst 1, 1) := by decide +kernel
theorem dX5_between_39 : decode cX5_between 39 = .ok (.invokevirtual 215, 3) := by decide +kernel
theorem dX5_between_42 : decode cX5_between 42 = .ok (.ifCond .ne 21, 3) := by decide +kernel
theorem dX5_between_45 : decode cX5_between 45 = .ok (.aload_n 0, 1) := by decide +kernel
theorem dX5_between_46 : decode cX5_between 46 = .ok (.iload_n 1, 1) := by decide +kernel
theorem dX5_between_47 : decode cX5_between 47 = .ok (.iload_n 2, 1) := by decide +kernel
theorem dX5_between_48 : decode cX5_between 48 = .ok (.if_icmp .ne 7, 3) := by decide +kernel
theorem dX5_between_51 : decode cX5_between 51 = .ok (.iconst 1, 1) := by decide +kernel
theorem dX5_between_52 : decode cX5_between 52 = .ok (.goto 4, 3) := by decide +kernel
theorem dX5_between_55 : decode cX5_between 55 = .ok (.iconst 0, 1) := by decide +kernel
theorem dX5_between_56 : decode cX5_between 56 = .ok (.iconst 5, 1) := by decide +kernel
theorem dX5_between_57 : decode cX5_between 57 = .ok (.invokevirtual 215, 3) := by decide +kernel
theorem dX5_between_60 : decode cX5_between 60 = .ok (.ifCond .eq 7, 3) := by decide +kernel
theorem dX5_between_63 : decode cX5_between 63 = .ok (.ldc2_w 341, 3) := by decide +kernel
theorem dX5_between_66 : decode cX5_between 66 = .ok (.lreturn, 1) := by decide +kernel
theorem dX5_between_67 : decode cX5_between 67 = .ok (.iload_n 3, 1) := by decide +kernel
theorem dX5_between_68 : decode cX5_between 68 = .ok (.tableswitch 58 0 2 #[28, 38, 48], 28) := by decide +kernel
theorem dX5_between_96 : decode cX5_between 96 = .ok (.aload_n 0, 1) := by decide +kernel
theorem dX5_between_97 : decode cX5_between 97 = .ok (.getfield 13, 3) := by decide +kernel
theorem dX5_between_100 : decode cX5_between 100 = .ok (.iload_n 1, 1) := by decide +kernel
theorem dX5_between_101 : decode cX5_between 101 = .ok (.iload_n 2, 1) := by decide +kernel
theorem dX5_between_102 : decode cX5_between 102 = .ok (.invokestatic 273, 3) := by decide +kernel
theorem dX5_between_105 : decode cX5_between 105 = .ok (.lreturn, 1) := by decide +kernel
theorem dX5_between_106 : decode cX5_between 106 = .ok (.aload_n 0, 1) := by decide +kernel
theorem dX5_between_107 : decode cX5_between 107 = .ok (.getfield 13, 3) := by decide +kernel
theorem dX5_between_110 : decode cX5_between 110 = .ok (.iload_n 1, 1) := by decide +kernel
theorem dX5_between_111 : decode cX5_between 111 = .ok (.iload_n 2, 1) := by decide +kernel
theorem dX5_between_112 : decode cX5_between 112 = .ok (.invokestatic 276, 3) := by decide +kernel
theorem dX5_between_115 : decode cX5_between 115 = .ok (.lreturn, 1) := by decide +kernel
theorem dX5_between_116 : decode cX5_between 116 = .ok (.aload_n 0, 1) := by decide +kernel
theorem dX5_between_117 : decode cX5_between 117 = .ok (.getfield 13, 3) := by decide +kernel
theorem dX5_between_120 : decode cX5_between 120 = .ok (.iload_n 1, 1) := by decide +kernel
theorem dX5_between_121 : decode cX5_between 121 = .ok (.iload_n 2, 1) := by decide +kernel
theorem dX5_between_122 : decode cX5_between 122 = .ok (.invokestatic 279, 3) := by decide +kernel
theorem dX5_between_125 : decode cX5_between 125 = .ok (.lreturn, 1) := by decide +kernel
theorem dX5_between_126 : decode cX5_between 126 = .ok (.aload_n 0, 1) := by decide +kernel
theorem dX5_between_127 : decode cX5_between 127 = .ok (.getfield 13, 3) := by decide +kernel
theorem dX5_between_130 : decode cX5_between 130 = .ok (.iload_n 1, 1) := by decide +kernel
theorem dX5_between_131 : decode cX5_between 131 = .ok (.iload_n 2, 1) := by decide +kernel
theorem dX5_between_132 : decode cX5_between 132 = .ok (.invokestatic 295, 3) := by decide +kernel
theorem dX5_between_135 : decode cX5_between 135 = .ok (.lreturn, 1) := by decide +kernel
theorem dX5_back_0 : decode cX5_back 0 = .ok (.aload_n 0, 1) := by decide +kernel
theorem dX5_back_1 : decode cX5_back 1 = .ok (.invokevirtual 212, 3) := by decide +kernel
theorem dX5_back_4 : decode cX5_back 4 = .ok (.aload_n 0, 1) := by decide +kernel
theorem dX5_back_5 : decode cX5_back 5 = .ok (.aload_n 0, 1) := by decide +kernel
theorem dX5_back_6 : decode cX5_back 6 = .ok (.iload_n 1, 1) := by decide +kernel
theorem dX5_back_7 : decode cX5_back 7 = .ok (.invokevirtual 247, 3) := by decide +kernel
theorem dX5_back_10 : decode cX5_back 10 = .ok (.ifCond .ne 7, 3) := by decide +kernel
theorem dX5_back_13 : decode cX5_back 13 = .ok (.iconst 1, 1) := by decide +kernel
theorem dX5_back_14 : decode cX5_back 14 = .ok (.goto 4, 3) := by decide +kernel
theorem dX5_back_17 : decode cX5_back 17 = .ok (.iconst 0, 1) := by decide +kernel
theorem dX5_back_18 : decode cX5_back 18 = .ok (.iconst 1, 1) := by decide +kernel
theorem dX5_back_19 : decode cX5_back 19 = .ok (.invokevirtual 215, 3) := by decide +kernel
theorem dX5_back_22 : decode cX5_back 22 = .ok (.ifCond .eq 7, 3) := by decide +kernel
theorem dX5_back_25 : decode cX5_back 25 = .ok (.ldc2_w 341, 3) := by decide +kernel
theorem dX5_back_28 : decode cX5_back 28 = .ok (.lreturn, 1) := by decide +kernel
theorem dX5_back_29 : decode cX5_back 29 = .ok (.aload_n 0, 1) := by decide +kernel
theorem dX5_back_30 : decode cX5_back 30 = .ok (.getfield 13, 3) := by decide +kernel
theorem dX5_back_33 : decode cX5_back 33 = .ok (.iload_n 1, 1) := by decide +kernel
theorem dX5_back_34 : decode cX5_back 34 = .ok (.invokestatic 324, 3) := by decide +kernel
theorem dX5_back_37 : decode cX5_back 37 = .ok (.lreturn, 1) := by decide +kernel
theorem dX5_fund_0 : decode cX5_fund 0 = .ok (.aload_n 0, 1) := by decide +kernel
theorem dX5_fund_1 : decode cX5_fund 1 = .ok (.invokevirtual 212, 3) := by decide +kernel
theorem dX5_fund_4 : decode cX5_fund 4 = .ok (.aload_n 0, 1) := by decide +kernel
theorem dX5_fund_5 : decode cX5_fund 5 = .ok (.aload_n 0, 1) := by decide +kernel
theorem dX5_fund_6 : decode cX5_fund 6 = .ok (.iload_n 1, 1) := by decide +kernel
theorem dX5_fund_7 : decode cX5_fund 7 = .ok (.invokevirtual 234, 3) := by decide +kernel
theorem dX5_fund_10 : decode cX5_fund 10 = .ok (.ifCond .eq 13, 3) := by decide +kernel
theorem dX5_fund_13 : decode cX5_fund 13 = .ok (.iload_n 2, 1) := by decide +kernel
theorem dX5_fund_14 : decode cX5_fund 14 = .ok (.i2l, 1) := by decide +kernel
theorem dX5_fund_15 : decode cX5_fund 15 = .ok (.lconst 0, 1) := by decide +kernel
theorem dX5_fund_16 : decode cX5_fund 16 = .ok (.lconst 1, 1) := by decide +kernel
theorem dX5_fund_17 : decode cX5_fund 17 = .ok (.invokestatic 161, 3) := by decide +kernel
theorem dX5_fund_20 : decode cX5_fund 20 = .ok (.ifCond .ne 7, 3) := by decide +kernel
theorem dX5_fund_23 : decode cX5_fund 23 = .ok (.iconst 1, 1) := by decide +kernel
theorem dX5_fund_24 : decode cX5_fund 24 = .ok (.goto 4, 3) := by decide +kernel
theorem dX5_fund_27 : decode cX5_fund 27 = .ok (.iconst 0, 1) := by decide +kernel
theorem dX5_fund_28 : decode cX5_fund 28 = .ok (.iconst 1, 1) := by decide +kernel
theorem dX5_fund_29 : decode cX5_fund 29 = .ok (.invokevirtual 215, 3) := by decide +kernel
theorem dX5_fund_32 : decode cX5_fund 32 = .ok (.ifCond .eq 5, 3) := by decide +kernel
theorem dX5_fund_35 : decode cX5_fund 35 = .ok (.iconst (-1), 1) := by decide +kernel
theorem dX5_fund_36 : decode cX5_fund 36 = .ok (.ireturn, 1) := by decide +kernel
theorem dX5_fund_37 : decode cX5_fund 37 = .ok (.aload_n 0, 1) := by decide +kernel
theorem dX5_fund_38 : decode cX5_fund 38 = .ok (.getfield 13, 3) := by decide +kernel
theorem dX5_fund_41 : decode cX5_fund 41 = .ok (.iload_n 1, 1) := by decide +kernel
theorem dX5_fund_42 : decode cX5_fund 42 = .ok (.iload_n 2, 1) := by decide +kernel
theorem dX5_fund_43 : decode cX5_fund 43 = .ok (.ifCond .ne 8, 3) := by decide +kernel
theorem dX5_fund_46 : decode cX5_fund 46 = .ok (.bipush 6, 2) := by decide +kernel
theorem dX5_fund_48 : decode cX5_fund 48 = .ok (.goto 4, 3) := by decide +kernel
theorem dX5_fund_51 : decode cX5_fund 51 = .ok (.iconst 5, 1) := by decide +kernel
theorem dX5_fund_52 : decode cX5_fund 52 = .ok (.invokestatic 298, 3) := by decide +kernel
theorem dX5_fund_55 : decode cX5_fund 55 = .ok (.l2i, 1) := by decide +kernel
theorem dX5_fund_56 : decode cX5_fund 56 = .ok (.ireturn, 1) := by decide +kernel
theorem dX5_pays_0 : decode cX5_pays 0 = .ok (.aload_n 0, 1) := by decide +kernel
theorem dX5_pays_1 : decode cX5_pays 1 = .ok (.invokevirtual 212, 3) := by decide +kernel
theorem dX5_pays_4 : decode cX5_pays 4 = .ok (.aload_n 0, 1) := by decide +kernel
theorem dX5_pays_5 : decode cX5_pays 5 = .ok (.aload_n 0, 1) := by decide +kernel
theorem dX5_pays_6 : decode cX5_pays 6 = .ok (.iload_n 1, 1) := by decide +kernel
theorem dX5_pays_7 : decode cX5_pays 7 = .ok (.invokevirtual 234, 3) := by decide +kernel
theorem dX5_pays_10 : decode cX5_pays 10 = .ok (.ifCond .eq 11, 3) := by decide +kernel
theorem dX5_pays_13 : decode cX5_pays 13 = .ok (.aload_n 0, 1) := by decide +kernel
theorem dX5_pays_14 : decode cX5_pays 14 = .ok (.iload_n 2, 1) := by decide +kernel
theorem dX5_pays_15 : decode cX5_pays 15 = .ok (.invokevirtual 247, 3) := by decide +kernel
theorem dX5_pays_18 : decode cX5_pays 18 = .ok (.ifCond .ne 7, 3) := by decide +kernel
theorem dX5_pays_21 : decode cX5_pays 21 = .ok (.iconst 1, 1) := by decide +kernel
theorem dX5_pays_22 : decode cX5_pays 22 = .ok (.goto 4, 3) := by decide +kernel
theorem dX5_pays_25 : decode cX5_pays 25 = .ok (.iconst 0, 1) := by decide +kernel
theorem dX5_pays_26 : decode cX5_pays 26 = .ok (.iconst 1, 1) := by decide +kernel
theorem dX5_pays_27 : decode cX5_pays 27 = .ok (.invokevirtual 215, 3) := by decide +kernel
theorem dX5_pays_30 : decode cX5_pays 30 = .ok (.ifCond .eq 5, 3) := by decide +kernel
theorem dX5_pays_33 : decode cX5_pays 33 = .ok (.iconst (-1), 1) := by decide +kernel
theorem dX5_pays_34 : decode cX5_pays 34 = .ok (.ireturn, 1) := by decide +kernel
theorem dX5_pays_35 : decode cX5_pays 35 = .ok (.aload_n 0, 1) := by decide +kernel
theorem dX5_pays_36 : decode cX5_pays 36 = .ok (.invokevirtual 343, 3) := by decide +kernel
theorem dX5_pays_39 : decode cX5_pays 39 = .ok (.aload_n 0, 1) := by decide +kernel
theorem dX5_pays_40 : decode cX5_pays 40 = .ok (.getfield 49, 3) := by decide +kernel
theorem dX5_pays_43 : decode cX5_pays 43 = .ok (.bipush 16, 2) := by decide +kernel
theorem dX5_pays_45 : decode cX5_pays 45 = .ok (.iload_n 1, 1) := by decide +kernel
theorem dX5_pays_46 : decode cX5_pays 46 = .ok (.imul, 1) := by decide +kernel
theorem dX5_pays_47 : decode cX5_pays 47 = .ok (.iconst 4, 1) := by decide +kernel
theorem dX5_pays_48 : decode cX5_pays 48 = .ok (.iadd, 1) := by decide +kernel
theorem dX5_pays_49 : decode cX5_pays 49 = .ok (.iload_n 2, 1) := by decide +kernel
theorem dX5_pays_50 : decode cX5_pays 50 = .ok (.iadd, 1) := by decide +kernel
theorem dX5_pays_51 : decode cX5_pays 51 = .ok (.laload, 1) := by decide +kernel
theorem dX5_pays_52 : decode cX5_pays 52 = .ok (.l2i, 1) := by decide +kernel
theorem dX5_pays_53 : decode cX5_pays 53 = .ok (.ireturn, 1) := by decide +kernel
theorem dX5_paysTo_0 : decode cX5_paysTo 0 = .ok (.aload_n 0, 1) := by decide +kernel
theorem dX5_paysTo_1 : decode cX5_paysTo 1 = .ok (.invokevirtual 212, 3) := by decide +kernel
theorem dX5_paysTo_4 : decode cX5_paysTo 4 = .ok (.aload_n 0, 1) := by decide +kernel
theorem dX5_paysTo_5 : decode cX5_paysTo 5 = .ok (.aload_n 0, 1) := by decide +kernel
theorem dX5_paysTo_6 : decode cX5_paysTo 6 = .ok (.iload_n 1, 1) := by decide +kernel
theorem dX5_paysTo_7 : decode cX5_paysTo 7 = .ok (.invokevirtual 234, 3) := by decide +kernel
theorem dX5_paysTo_10 : decode cX5_paysTo 10 = .ok (.ifCond .eq 11, 3) := by decide +kernel
theorem dX5_paysTo_13 : decode cX5_paysTo 13 = .ok (.aload_n 0, 1) := by decide +kernel
theorem dX5_paysTo_14 : decode cX5_paysTo 14 = .ok (.iload_n 2, 1) := by decide +kernel
theorem dX5_paysTo_15 : decode cX5_paysTo 15 = .ok (.invokevirtual 234, 3) := by decide +kernel
theorem dX5_paysTo_18 : decode cX5_paysTo 18 = .ok (.ifCond .ne 7, 3) := by decide +kernel
theorem dX5_paysTo_21 : decode cX5_paysTo 21 = .ok (.iconst 1, 1) := by decide +kernel
theorem dX5_paysTo_22 : decode cX5_paysTo 22 = .ok (.goto 4, 3) := by decide +kernel
theorem dX5_paysTo_25 : decode cX5_paysTo 25 = .ok (.iconst 0, 1) := by decide +kernel
theorem dX5_paysTo_26 : decode cX5_paysTo 26 = .ok (.iconst 1, 1) := by decide +kernel
theorem dX5_paysTo_27 : decode cX5_paysTo 27 = .ok (.invokevirtual 215, 3) := by decide +kernel
theorem dX5_paysTo_30 : decode cX5_paysTo 30 = .ok (.ifCond .ne 21, 3) := by decide +kernel
theorem dX5_paysTo_33 : decode cX5_paysTo 33 = .ok (.aload_n 0, 1) := by decide +kernel
theorem dX5_paysTo_34 : decode cX5_paysTo 34 = .ok (.iload_n 1, 1) := by decide +kernel
theorem dX5_paysTo_35 : decode cX5_paysTo 35 = .ok (.iload_n 2, 1) := by decide +kernel
theorem dX5_paysTo_36 : decode cX5_paysTo 36 = .ok (.if_icmp .ne 7, 3) := by decide +kernel
theorem dX5_paysTo_39 : decode cX5_paysTo 39 = .ok (.iconst 1, 1) := by decide +kernel
theorem dX5_paysTo_40 : decode cX5_paysTo 40 = .ok (.goto 4, 3) := by decide +kernel
theorem dX5_paysTo_43 : decode cX5_paysTo 43 = .ok (.iconst 0, 1) := by decide +kernel
theorem dX5_paysTo_44 : decode cX5_paysTo 44 = .ok (.iconst 5, 1) := by decide +kernel
theorem dX5_paysTo_45 : decode cX5_paysTo 45 = .ok (.invokevirtual 215, 3) := by decide +kernel
theorem dX5_paysTo_48 : decode cX5_paysTo 48 = .ok (.ifCond .eq 7, 3) := by decide +kernel
theorem dX5_paysTo_51 : decode cX5_paysTo 51 = .ok (.ldc2_w 341, 3) := by decide +kernel
theorem dX5_paysTo_54 : decode cX5_paysTo 54 = .ok (.lreturn, 1) := by decide +kernel
theorem dX5_paysTo_55 : decode cX5_paysTo 55 = .ok (.aload_n 0, 1) := by decide +kernel
theorem dX5_paysTo_56 : decode cX5_paysTo 56 = .ok (.invokevirtual 343, 3) := by decide +kernel
theorem dX5_paysTo_59 : decode cX5_paysTo 59 = .ok (.aload_n 0, 1) := by decide +kernel
theorem dX5_paysTo_60 : decode cX5_paysTo 60 = .ok (.getfield 49, 3) := by decide +kernel
theorem dX5_paysTo_63 : decode cX5_paysTo 63 = .ok (.bipush 16, 2) := by decide +kernel
theorem dX5_paysTo_65 : decode cX5_paysTo 65 = .ok (.iload_n 1, 1) := by decide +kernel
theorem dX5_paysTo_66 : decode cX5_paysTo 66 = .ok (.imul, 1) := by decide +kernel
theorem dX5_paysTo_67 : decode cX5_paysTo 67 = .ok (.iload_n 2, 1) := by decide +kernel
theorem dX5_paysTo_68 : decode cX5_paysTo 68 = .ok (.iadd, 1) := by decide +kernel
theorem dX5_paysTo_69 : decode cX5_paysTo 69 = .ok (.laload, 1) := by decide +kernel
theorem dX5_paysTo_70 : decode cX5_paysTo 70 = .ok (.lreturn, 1) := by decide +kernel
theorem dX5_owedBy_0 : decode cX5_owedBy 0 = .ok (.lconst 0, 1) := by decide +kernel
theorem dX5_owedBy_1 : decode cX5_owedBy 1 = .ok (.lstore_n 2, 1) := by decide +kernel
theorem dX5_owedBy_2 : decode cX5_owedBy 2 = .ok (.iconst 0, 1) := by decide +kernel
theorem dX5_owedBy_3 : decode cX5_owedBy 3 = .ok (.istore 4, 2) := by decide +kernel
theorem dX5_owedBy_5 : decode cX5_owedBy 5 = .ok (.iload 4, 2) := by decide +kernel
theorem dX5_owedBy_7 : decode cX5_owedBy 7 = .ok (.aload_n 0, 1) := by decide +kernel
theorem dX5_owedBy_8 : decode cX5_owedBy 8 = .ok (.getfield 13, 3) := by decide +kernel
theorem dX5_owedBy_11 : decode cX5_owedBy 11 = .ok (.iconst 0, 1) := by decide +kernel
theorem dX5_owedBy_12 : decode cX5_owedBy 12 = .ok (.iaload, 1) := by decide +kernel
theorem dX5_owedBy_13 : decode cX5_owedBy 13 = .ok (.if_icmp .ge 22, 3) := by decide +kernel
theorem dX5_owedBy_16 : decode cX5_owedBy 16 = .ok (.lload_n 2, 1) := by decide +kernel
theorem dX5_owedBy_17 : decode cX5_owedBy 17 = .ok (.aload_n 0, 1) := by decide +kernel
theorem dX5_owedBy_18 : decode cX5_owedBy 18 = .ok (.getfield 13, 3) := by decide +kernel
theorem dX5_owedBy_21 : decode cX5_owedBy 21 = .ok (.iload_n 1, 1) := by decide +kernel
theorem dX5_owedBy_22 : decode cX5_owedBy 22 = .ok (.iload 4, 2) := by decide +kernel
theorem dX5_owedBy_24 : decode cX5_owedBy 24 = .ok (.invokestatic 295, 3) := by decide +kernel
theorem dX5_owedBy_27 : decode cX5_owedBy 27 = .ok (.ladd, 1) := by decide +kernel
theorem dX5_owedBy_28 : decode cX5_owedBy 28 = .ok (.lstore_n 2, 1) := by decide +kernel
theorem dX5_owedBy_29 : decode cX5_owedBy 29 = .ok (.iinc 4 1, 3) := by decide +kernel
theorem dX5_owedBy_32 : decode cX5_owedBy 32 = .ok (.goto (-27), 3) := by decide +kernel
theorem dX5_owedBy_35 : decode cX5_owedBy 35 = .ok (.iconst 0, 1) := by decide +kernel
theorem dX5_owedBy_36 : decode cX5_owedBy 36 = .ok (.istore 4, 2) := by decide +kernel
theorem dX5_owedBy_38 : decode cX5_owedBy 38 = .ok (.iload 4, 2) := by decide +kernel
theorem dX5_owedBy_40 : decode cX5_owedBy 40 = .ok (.aload_n 0, 1) := by decide +kernel
theorem dX5_owedBy_41 : decode cX5_owedBy 41 = .ok (.getfield 13, 3) := by decide +kernel
theorem dX5_owedBy_44 : decode cX5_owedBy 44 = .ok (.iconst 1, 1) := by decide +kernel
theorem dX5_owedBy_45 : decode cX5_owedBy 45 = .ok (.iaload, 1) := by decide +kernel
theorem dX5_owedBy_46 : decode cX5_owedBy 46 = .ok (.if_icmp .ge 22, 3) := by decide +kernel
theorem dX5_owedBy_49 : decode cX5_owedBy 49 = .ok (.lload_n 2, 1) := by decide +kernel
theorem dX5_owedBy_50 : decode cX5_owedBy 50 = .ok (.aload_n 0, 1) := by decide +kernel
theorem dX5_owedBy_51 : decode cX5_owedBy 51 = .ok (.getfield 13, 3) := by decide +kernel
theorem dX5_owedBy_54 : decode cX5_owedBy 54 = .ok (.iload_n 1, 1) := by decide +kernel
theorem dX5_owedBy_55 : decode cX5_owedBy 55 = .ok (.iload 4, 2) := by decide +kernel
theorem dX5_owedBy_57 : decode cX5_owedBy 57 = .ok (.invokestatic 266, 3) := by decide +kernel
theorem dX5_owedBy_60 : decode cX5_owedBy 60 = .ok (.ladd, 1) := by decide +kernel
theorem dX5_owedBy_61 : decode cX5_owedBy 61 = .ok (.lstore_n 2, 1) := by decide +kernel
theorem dX5_owedBy_62 : decode cX5_owedBy 62 = .ok (.iinc 4 1, 3) := by decide +kernel
theorem dX5_owedBy_65 : decode cX5_owedBy 65 = .ok (.goto (-27), 3) := by decide +kernel
theorem dX5_owedBy_68 : decode cX5_owedBy 68 = .ok (.lload_n 2, 1) := by decide +kernel
theorem dX5_owedBy_69 : decode cX5_owedBy 69 = .ok (.lreturn, 1) := by decide +kernel
theorem dX5_sum_0 : decode cX5_sum 0 = .ok (.aload_n 0, 1) := by decide +kernel
theorem dX5_sum_1 : decode cX5_sum 1 = .ok (.invokevirtual 212, 3) := by decide +kernel
theorem dX5_sum_4 : decode cX5_sum 4 = .ok (.aload_n 0, 1) := by decide +kernel
theorem dX5_sum_5 : decode cX5_sum 5 = .ok (.aload_n 0, 1) := by decide +kernel
theorem dX5_sum_6 : decode cX5_sum 6 = .ok (.iload_n 1, 1) := by decide +kernel
theorem dX5_sum_7 : decode cX5_sum 7 = .ok (.invokevirtual 234, 3) := by decide +kernel
theorem dX5_sum_10 : decode cX5_sum 10 = .ok (.ifCond .eq 13, 3) := by decide +kernel
theorem dX5_sum_13 : decode cX5_sum 13 = .ok (.iload_n 2, 1) := by decide +kernel
theorem dX5_sum_14 : decode cX5_sum 14 = .ok (.i2l, 1) := by decide +kernel
theorem dX5_sum_15 : decode cX5_sum 15 = .ok (.lconst 0, 1) := by decide +kernel
theorem dX5_sum_16 : decode cX5_sum 16 = .ok (.lconst 1, 1) := by decide +kernel
theorem dX5_sum_17 : decode cX5_sum 17 = .ok (.invokestatic 161, 3) := by decide +kernel
theorem dX5_sum_20 : decode cX5_sum 20 = .ok (.ifCond .ne 7, 3) := by decide +kernel
theorem dX5_sum_23 : decode cX5_sum 23 = .ok (.iconst 1, 1) := by decide +kernel
theorem dX5_sum_24 : decode cX5_sum 24 = .ok (.goto 4, 3) := by decide +kernel
theorem dX5_sum_27 : decode cX5_sum 27 = .ok (.iconst 0, 1) := by decide +kernel
theorem dX5_sum_28 : decode cX5_sum 28 = .ok (.iconst 1, 1) := by decide +kernel
theorem dX5_sum_29 : decode cX5_sum 29 = .ok (.invokevirtual 215, 3) := by decide +kernel
theorem dX5_sum_32 : decode cX5_sum 32 = .ok (.ifCond .eq 7, 3) := by decide +kernel
theorem dX5_sum_35 : decode cX5_sum 35 = .ok (.ldc2_w 341, 3) := by decide +kernel
theorem dX5_sum_38 : decode cX5_sum 38 = .ok (.lreturn, 1) := by decide +kernel
theorem dX5_sum_39 : decode cX5_sum 39 = .ok (.iload_n 2, 1) := by decide +kernel
theorem dX5_sum_40 : decode cX5_sum 40 = .ok (.ifCond .ne 9, 3) := by decide +kernel
theorem dX5_sum_43 : decode cX5_sum 43 = .ok (.aload_n 0, 1) := by decide +kernel
theorem dX5_sum_44 : decode cX5_sum 44 = .ok (.iload_n 1, 1) := by decide +kernel
theorem dX5_sum_45 : decode cX5_sum 45 = .ok (.invokevirtual 346, 3) := by decide +kernel
theorem dX5_sum_48 : decode cX5_sum 48 = .ok (.lreturn, 1) := by decide +kernel
theorem dX5_sum_49 : decode cX5_sum 49 = .ok (.aload_n 0, 1) := by decide +kernel
theorem dX5_sum_50 : decode cX5_sum 50 = .ok (.invokevirtual 343, 3) := by decide +kernel
theorem dX5_sum_53 : decode cX5_sum 53 = .ok (.aload_n 0, 1) := by decide +kernel
theorem dX5_sum_54 : decode cX5_sum 54 = .ok (.iload_n 1, 1) := by decide +kernel
theorem dX5_sum_55 : decode cX5_sum 55 = .ok (.invokevirtual 331, 3) := by decide +kernel
theorem dX5_sum_58 : decode cX5_sum 58 = .ok (.lreturn, 1) := by decide +kernel
theorem dX5_bites_0 : decode cX5_bites 0 = .ok (.aload_n 0, 1) := by decide +kernel
theorem dX5_bites_1 : decode cX5_bites 1 = .ok (.invokevirtual 212, 3) := by decide +kernel
theorem dX5_bites_4 : decode cX5_bites 4 = .ok (.aload_n 0, 1) := by decide +kernel
theorem dX5_bites_5 : decode cX5_bites 5 = .ok (.aload_n 0, 1) := by decide +kernel
theorem dX5_bites_6 : decode cX5_bites 6 = .ok (.iload_n 1, 1) := by decide +kernel
theorem dX5_bites_7 : decode cX5_bites 7 = .ok (.invokevirtual 234, 3) := by decide +kernel
theorem dX5_bites_10 : decode cX5_bites 10 = .ok (.ifCond .ne 7, 3) := by decide +kernel
theorem dX5_bites_13 : decode cX5_bites 13 = .ok (.iconst 1, 1) := by decide +kernel
theorem dX5_bites_14 : decode cX5_bites 14 = .ok (.goto 4, 3) := by decide +kernel
theorem dX5_bites_17 : decode cX5_bites 17 = .ok (.iconst 0, 1) := by decide +kernel
theorem dX5_bites_18 : decode cX5_bites 18 = .ok (.iconst 1, 1) := by decide +kernel
theorem dX5_bites_19 : decode cX5_bites 19 = .ok (.invokevirtual 215, 3) := by decide +kernel
theorem dX5_bites_22 : decode cX5_bites 22 = .ok (.ifCond .eq 5, 3) := by decide +kernel
theorem dX5_bites_25 : decode cX5_bites 25 = .ok (.iconst (-1), 1) := by decide +kernel
theorem dX5_bites_26 : decode cX5_bites 26 = .ok (.ireturn, 1) := by decide +kernel
theorem dX5_bites_27 : decode cX5_bites 27 = .ok (.aload_n 0, 1) := by decide +kernel
theorem dX5_bites_28 : decode cX5_bites 28 = .ok (.invokevirtual 343, 3) := by decide +kernel
theorem dX5_bites_31 : decode cX5_bites 31 = .ok (.aload_n 0, 1) := by decide +kernel
theorem dX5_bites_32 : decode cX5_bites 32 = .ok (.iload_n 1, 1) := by decide +kernel
theorem dX5_bites_33 : decode cX5_bites 33 = .ok (.invokevirtual 331, 3) := by decide +kernel
theorem dX5_bites_36 : decode cX5_bites 36 = .ok (.aload_n 0, 1) := by decide +kernel
theorem dX5_bites_37 : decode cX5_bites 37 = .ok (.iload_n 1, 1) := by decide +kernel
theorem dX5_bites_38 : decode cX5_bites 38 = .ok (.invokevirtual 346, 3) := by decide +kernel
theorem dX5_bites_41 : decode cX5_bites 41 = .ok (.lcmp, 1) := by decide +kernel
theorem dX5_bites_42 : decode cX5_bites 42 = .ok (.ifCond .ge 7, 3) := by decide +kernel
theorem dX5_bites_45 : decode cX5_bites 45 = .ok (.iconst 1, 1) := by decide +kernel
theorem dX5_bites_46 : decode cX5_bites 46 = .ok (.goto 4, 3) := by decide +kernel
theorem dX5_bites_49 : decode cX5_bites 49 = .ok (.iconst 0, 1) := by decide +kernel
theorem dX5_bites_50 : decode cX5_bites 50 = .ok (.ireturn, 1) := by decide +kernel
theorem dX5_gets_0 : decode cX5_gets 0 = .ok (.aload_n 0, 1) := by decide +kernel
theorem dX5_gets_1 : decode cX5_gets 1 = .ok (.invokevirtual 212, 3) := by decide +kernel
theorem dX5_gets_4 : decode cX5_gets 4 = .ok (.aload_n 0, 1) := by decide +kernel
theorem dX5_gets_5 : decode cX5_gets 5 = .ok (.aload_n 0, 1) := by decide +kernel
theorem dX5_gets_6 : decode cX5_gets 6 = .ok (.iload_n 1, 1) := by decide +kernel
theorem dX5_gets_7 : decode cX5_gets 7 = .ok (.invokevirtual 247, 3) := by decide +kernel
theorem dX5_gets_10 : decode cX5_gets 10 = .ok (.ifCond .eq 15, 3) := by decide +kernel
theorem dX5_gets_13 : decode cX5_gets 13 = .ok (.iload_n 2, 1) := by decide +kernel
theorem dX5_gets_14 : decode cX5_gets 14 = .ok (.i2l, 1) := by decide +kernel
theorem dX5_gets_15 : decode cX5_gets 15 = .ok (.lconst 0, 1) := by decide +kernel
theorem dX5_gets_16 : decode cX5_gets 16 = .ok (.ldc2_w 349, 3) := by decide +kernel
theorem dX5_gets_19 : decode cX5_gets 19 = .ok (.invokestatic 161, 3) := by decide +kernel
theorem dX5_gets_22 : decode cX5_gets 22 = .ok (.ifCond .ne 7, 3) := by decide +kernel
theorem dX5_gets_25 : decode cX5_gets 25 = .ok (.iconst 1, 1) := by decide +kernel
theorem dX5_gets_26 : decode cX5_gets 26 = .ok (.goto 4, 3) := by decide +kernel
theorem dX5_gets_29 : decode cX5_gets 29 = .ok (.iconst 0, 1) := by decide +kernel
theorem dX5_gets_30 : decode cX5_gets 30 = .ok (.iconst 1, 1) := by decide +kernel
theorem dX5_gets_31 : decode cX5_gets 31 = .ok (.invokevirtual 215, 3) := by decide +kernel
theorem dX5_gets_34 : decode cX5_gets 34 = .ok (.ifCond .eq 7, 3) := by decide +kernel
theorem dX5_gets_37 : decode cX5_gets 37 = .ok (.ldc2_w 341, 3) := by decide +kernel
theorem dX5_gets_40 : decode cX5_gets 40 = .ok (.lreturn, 1) := by decide +kernel
theorem dX5_gets_41 : decode cX5_gets 41 = .ok (.aload_n 0, 1) := by decide +kernel
theorem dX5_gets_42 : decode cX5_gets 42 = .ok (.invokevirtual 343, 3) := by decide +kernel
theorem dX5_gets_45 : decode cX5_gets 45 = .ok (.iload_n 2, 1) := by decide +kernel
theorem dX5_gets_46 : decode cX5_gets 46 = .ok (.ifCond .ne 15, 3) := by decide +kernel
theorem dX5_gets_49 : decode cX5_gets 49 = .ok (.aload_n 0, 1) := by decide +kernel
theorem dX5_gets_50 : decode cX5_gets 50 = .ok (.iload_n 1, 1) := by decide +kernel
theorem dX5_gets_51 : decode cX5_gets 51 = .ok (.invokevirtual 328, 3) := by decide +kernel
theorem dX5_gets_54 : decode cX5_gets 54 = .ok (.aload_n 0, 1) := by decide +kernel
theorem dX5_gets_55 : decode cX5_gets 55 = .ok (.iload_n 1, 1) := by decide +kernel
theorem dX5_gets_56 : decode cX5_gets 56 = .ok (.invokevirtual 334, 3) := by decide +kernel
theorem dX5_gets_59 : decode cX5_gets 59 = .ok (.lsub, 1) := by decide +kernel
theorem dX5_gets_60 : decode cX5_gets 60 = .ok (.lreturn, 1) := by decide +kernel
theorem dX5_gets_61 : decode cX5_gets 61 = .ok (.iload_n 2, 1) := by decide +kernel
theorem dX5_gets_62 : decode cX5_gets 62 = .ok (.iconst 1, 1) := by decide +kernel
theorem dX5_gets_63 : decode cX5_gets 63 = .ok (.if_icmp .ne 11, 3) := by decide +kernel
theorem dX5_gets_66 : decode cX5_gets 66 = .ok (.aload_n 0, 1) := by decide +kernel
theorem dX5_gets_67 : decode cX5_gets 67 = .ok (.iload_n 1, 1) := by decide +kernel
theorem dX5_gets_68 : decode cX5_gets 68 = .ok (.invokevirtual 334, 3) := by decide +kernel
theorem dX5_gets_71 : decode cX5_gets 71 = .ok (.goto 8, 3) := by decide +kernel
theorem dX5_gets_74 : decode cX5_gets 74 = .ok (.aload_n 0, 1) := by decide +kernel
theorem dX5_gets_75 : decode cX5_gets 75 = .ok (.iload_n 1, 1) := by decide +kernel
theorem dX5_gets_76 : decode cX5_gets 76 = .ok (.invokevirtual 328, 3) := by decide +kernel
theorem dX5_gets_79 : decode cX5_gets 79 = .ok (.lreturn, 1) := by decide +kernel
theorem dX5_cover_0 : decode cX5_cover 0 = .ok (.aload_n 0, 1) := by decide +kernel
theorem dX5_cover_1 : decode cX5_cover 1 = .ok (.invokevirtual 212, 3) := by decide +kernel
theorem dX5_cover_4 : decode cX5_cover 4 = .ok (.aload_n 0, 1) := by decide +kernel
theorem dX5_cover_5 : decode cX5_cover 5 = .ok (.aload_n 0, 1) := by decide +kernel
theorem dX5_cover_6 : decode cX5_cover 6 = .ok (.iload_n 1, 1) := by decide +kernel
theorem dX5_cover_7 : decode cX5_cover 7 = .ok (.invokevirtual 234, 3) := by decide +kernel
theorem dX5_cover_10 : decode cX5_cover 10 = .ok (.ifCond .eq 13, 3) := by decide +kernel
theorem dX5_cover_13 : decode cX5_cover 13 = .ok (.iload_n 2, 1) := by decide +kernel
theorem dX5_cover_14 : decode cX5_cover 14 = .ok (.i2l, 1) := by decide +kernel
theorem dX5_cover_15 : decode cX5_cover 15 = .ok (.lconst 0, 1) := by decide +kernel
theorem dX5_cover_16 : decode cX5_cover 16 = .ok (.lconst 1, 1) := by decide +kernel
theorem dX5_cover_17 : decode cX5_cover 17 = .ok (.invokestatic 161, 3) := by decide +kernel
theorem dX5_cover_20 : decode cX5_cover 20 = .ok (.ifCond .ne 7, 3) := by decide +kernel
theorem dX5_cover_23 : decode cX5_cover 23 = .ok (.iconst 1, 1) := by decide +kernel
theorem dX5_cover_24 : decode cX5_cover 24 = .ok (.goto 4, 3) := by decide +kernel
theorem dX5_cover_27 : decode cX5_cover 27 = .ok (.iconst 0, 1) := by decide +kernel
theorem dX5_cover_28 : decode cX5_cover 28 = .ok (.iconst 1, 1) := by decide +kernel
theorem dX5_cover_29 : decode cX5_cover 29 = .ok (.invokevirtual 215, 3) := by decide +kernel
theorem dX5_cover_32 : decode cX5_cover 32 = .ok (.ifCond .eq 7, 3) := by decide +kernel
theorem dX5_cover_35 : decode cX5_cover 35 = .ok (.ldc2_w 341, 3) := by decide +kernel
theorem dX5_cover_38 : decode cX5_cover 38 = .ok (.lreturn, 1) := by decide +kernel
theorem dX5_cover_39 : decode cX5_cover 39 = .ok (.aload_n 0, 1) := by decide +kernel
theorem dX5_cover_40 : decode cX5_cover 40 = .ok (.invokevirtual 343, 3) := by decide +kernel
theorem dX5_cover_43 : decode cX5_cover 43 = .ok (.aload_n 0, 1) := by decide +kernel
theorem dX5_cover_44 : decode cX5_cover 44 = .ok (.iload_n 1, 1) := by decide +kernel
theorem dX5_cover_45 : decode cX5_cover 45 = .ok (.invokevirtual 331, 3) := by decide +kernel
theorem dX5_cover_48 : decode cX5_cover 48 = .ok (.lstore_n 3, 1) := by decide +kernel
theorem dX5_cover_49 : decode cX5_cover 49 = .ok (.iconst 0, 1) := by decide +kernel
theorem dX5_cover_50 : decode cX5_cover 50 = .ok (.istore 5, 2) := by decide +kernel
theorem dX5_cover_52 : decode cX5_cover 52 = .ok (.iload 5, 2) := by decide +kernel
theorem dX5_cover_54 : decode cX5_cover 54 = .ok (.aload_n 0, 1) := by decide +kernel
theorem dX5_cover_55 : decode cX5_cover 55 = .ok (.getfield 13, 3) := by decide +kernel
theorem dX5_cover_58 : decode cX5_cover 58 = .ok (.iconst 1, 1) := by decide +kernel
theorem dX5_cover_59 : decode cX5_cover 59 = .ok (.iaload, 1) := by decide +kernel
theorem dX5_cover_60 : decode cX5_cover 60 = .ok (.if_icmp .ge 44, 3) := by decide +kernel
theorem dX5_cover_63 : decode cX5_cover 63 = .ok (.lload_n 3, 1) := by decide +kernel
theorem dX5_cover_64 : decode cX5_cover 64 = .ok (.aload_n 0, 1) := by decide +kernel
theorem dX5_cover_65 : decode cX5_cover 65 = .ok (.getfield 13, 3) := by decide +kernel
theorem dX5_cover_68 : decode cX5_cover 68 = .ok (.iload 5, 2) := by decide +kernel
theorem dX5_cover_70 : decode cX5_cover 70 = .ok (.iconst 0, 1) := by decide +kernel
theorem dX5_cover_71 : decode cX5_cover 71 = .ok (.invokestatic 255, 3) := by decide +kernel
theorem dX5_cover_74 : decode cX5_cover 74 = .ok (.iconst 1, 1) := by decide +kernel
theorem dX5_cover_75 : decode cX5_cover 75 = .ok (.if_icmp .ne 20, 3) := by decide +kernel
theorem dX5_cover_78 : decode cX5_cover 78 = .ok (.aload_n 0, 1) := by decide +kernel
theorem dX5_cover_79 : decode cX5_cover 79 = .ok (.getfield 49, 3) := by decide +kernel
theorem dX5_cover_82 : decode cX5_cover 82 = .ok (.bipush 16, 2) := by decide +kernel
theorem dX5_cover_84 : decode cX5_cover 84 = .ok (.iload_n 1, 1) := by decide +kernel
theorem dX5_cover_85 : decode cX5_cover 85 = .ok (.imul, 1) := by decide +kernel
theorem dX5_cover_86 : decode cX5_cover 86 = .ok (.iconst 4, 1) := by decide +kernel
theorem dX5_cover_87 : decode cX5_cover 87 = .ok (.iadd, 1) := by decide +kernel
theorem dX5_cover_88 : decode cX5_cover 88 = .ok (.iload 5, 2) := by decide +kernel
theorem dX5_cover_90 : decode cX5_cover 90 = .ok (.iadd, 1) := by decide +kernel
theorem dX5_cover_91 : decode cX5_cover 91 = .ok (.laload, 1) := by decide +kernel
theorem dX5_cover_92 : decode cX5_cover 92 = .ok (.goto 4, 3) := by decide +kernel
theorem dX5_cover_95 : decode cX5_cover 95 = .ok (.lconst 0, 1) := by decide +kernel
theorem dX5_cover_96 : decode cX5_cover 96 = .ok (.lsub, 1) := by decide +kernel
theorem dX5_cover_97 : decode cX5_cover 97 = .ok (.lstore_n 3, 1) := by decide +kernel
theorem dX5_cover_98 : decode cX5_cover 98 = .ok (.iinc 5 1, 3) := by decide +kernel
theorem dX5_cover_101 : decode cX5_cover 101 = .ok (.goto (-49), 3) := by decide +kernel
theorem dX5_cover_104 : decode cX5_cover 104 = .ok (.lload_n 3, 1) := by decide +kernel
theorem dX5_cover_105 : decode cX5_cover 105 = .ok (.ldc2_w 339, 3) := by decide +kernel
theorem dX5_cover_108 : decode cX5_cover 108 = .ok (.lmul, 1) := by decide +kernel
theorem dX5_cover_109 : decode cX5_cover 109 = .ok (.ldc2_w 250, 3) := by decide +kernel
theorem dX5_cover_112 : decode cX5_cover 112 = .ok (.ldiv, 1) := by decide +kernel
theorem dX5_cover_113 : decode cX5_cover 113 = .ok (.aload_n 0, 1) := by decide +kernel
theorem dX5_cover_114 : decode cX5_cover 114 = .ok (.getfield 13, 3) := by decide +kernel
theorem dX5_cover_117 : decode cX5_cover 117 = .ok (.iload_n 1, 1) := by decide +kernel
theorem dX5_cover_118 : decode cX5_cover 118 = .ok (.iconst 3, 1) := by decide +kernel
theorem dX5_cover_119 : decode cX5_cover 119 = .ok (.invokestatic 243, 3) := by decide +kernel
theorem dX5_cover_122 : decode cX5_cover 122 = .ok (.i2l, 1) := by decide +kernel
theorem dX5_cover_123 : decode cX5_cover 123 = .ok (.ldc2_w 339, 3) := by decide +kernel
theorem dX5_cover_126 : decode cX5_cover 126 = .ok (.lmul, 1) := by decide +kernel
theorem dX5_cover_127 : decode cX5_cover 127 = .ok (.ldc2_w 250, 3) := by decide +kernel
theorem dX5_cover_130 : decode cX5_cover 130 = .ok (.ldiv, 1) := by decide +kernel
theorem dX5_cover_131 : decode cX5_cover 131 = .ok (.invokestatic 282, 3) := by decide +kernel
theorem dX5_cover_134 : decode cX5_cover 134 = .ok (.lstore 5, 2) := by decide +kernel
theorem dX5_cover_136 : decode cX5_cover 136 = .ok (.iload_n 2, 1) := by decide +kernel
theorem dX5_cover_137 : decode cX5_cover 137 = .ok (.ifCond .ne 8, 3) := by decide +kernel
theorem dX5_cover_140 : decode cX5_cover 140 = .ok (.lload 5, 2) := by decide +kernel
theorem dX5_cover_142 : decode cX5_cover 142 = .ok (.goto 11, 3) := by decide +kernel
theorem dX5_cover_145 : decode cX5_cover 145 = .ok (.aload_n 0, 1) := by decide +kernel
theorem dX5_cover_146 : decode cX5_cover 146 = .ok (.iload_n 1, 1) := by decide +kernel
theorem dX5_cover_147 : decode cX5_cover 147 = .ok (.invokevirtual 331, 3) := by decide +kernel
theorem dX5_cover_150 : decode cX5_cover 150 = .ok (.lload 5, 2) := by decide +kernel
theorem dX5_cover_152 : decode cX5_cover 152 = .ok (.lsub, 1) := by decide +kernel
theorem dX5_cover_153 : decode cX5_cover 153 = .ok (.lreturn, 1) := by decide +kernel
theorem dX5_net_0 : decode cX5_net 0 = .ok (.aload_n 0, 1) := by decide +kernel
theorem dX5_net_1 : decode cX5_net 1 = .ok (.invokevirtual 212, 3) := by decide +kernel
theorem dX5_net_4 : decode cX5_net 4 = .ok (.aload_n 0, 1) := by decide +kernel
theorem dX5_net_5 : decode cX5_net 5 = .ok (.aload_n 0, 1) := by decide +kernel
theorem dX5_net_6 : decode cX5_net 6 = .ok (.iload_n 1, 1) := by decide +kernel
theorem dX5_net_7 : decode cX5_net 7 = .ok (.invokevirtual 234, 3) := by decide +kernel
theorem dX5_net_10 : decode cX5_net 10 = .ok (.ifCond .ne 7, 3) := by decide +kernel
theorem dX5_net_13 : decode cX5_net 13 = .ok (.iconst 1, 1) := by decide +kernel
theorem dX5_net_14 : decode cX5_net 14 = .ok (.goto 4, 3) := by decide +kernel
theorem dX5_net_17 : decode cX5_net 17 = .ok (.iconst 0, 1) := by decide +kernel
theorem dX5_net_18 : decode cX5_net 18 = .ok (.iconst 1, 1) := by decide +kernel
theorem dX5_net_19 : decode cX5_net 19 = .ok (.invokevirtual 215, 3) := by decide +kernel
theorem dX5_net_22 : decode cX5_net 22 = .ok (.ifCond .eq 7, 3) := by decide +kernel
theorem dX5_net_25 : decode cX5_net 25 = .ok (.ldc2_w 351, 3) := by decide +kernel
theorem dX5_net_28 : decode cX5_net 28 = .ok (.lreturn, 1) := by decide +kernel
theorem dX5_net_29 : decode cX5_net 29 = .ok (.aload_n 0, 1) := by decide +kernel
theorem dX5_net_30 : decode cX5_net 30 = .ok (.invokevirtual 343, 3) := by decide +kernel
theorem dX5_net_33 : decode cX5_net 33 = .ok (.aload_n 0, 1) := by decide +kernel
theorem dX5_net_34 : decode cX5_net 34 = .ok (.iload_n 1, 1) := by decide +kernel
theorem dX5_net_35 : decode cX5_net 35 = .ok (.invokevirtual 353, 3) := by decide +kernel
theorem dX5_net_38 : decode cX5_net 38 = .ok (.lreturn, 1) := by decide +kernel
theorem dX5_netWith_0 : decode cX5_netWith 0 = .ok (.aload_n 0, 1) := by decide +kernel
theorem dX5_netWith_1 : decode cX5_netWith 1 = .ok (.invokevirtual 318, 3) := by decide +kernel
theorem dX5_netWith_4 : decode cX5_netWith 4 = .ok (.iconst 0, 1) := by decide +kernel
theorem dX5_netWith_5 : decode cX5_netWith 5 = .ok (.istore_n 3, 1) := by decide +kernel
theorem dX5_netWith_6 : decode cX5_netWith 6 = .ok (.iload_n 3, 1) := by decide +kernel
theorem dX5_netWith_7 : decode cX5_netWith 7 = .ok (.iconst 3, 1) := by decide +kernel
theorem dX5_netWith_8 : decode cX5_netWith 8 = .ok (.if_icmp .ge 22, 3) := by decide +kernel
theorem dX5_netWith_11 : decode cX5_netWith 11 = .ok (.aload_n 0, 1) := by decide +kernel
theorem dX5_netWith_12 : decode cX5_netWith 12 = .ok (.getfield 17, 3) := by decide +kernel
theorem dX5_netWith_15 : decode cX5_netWith 15 = .ok (.iconst 2, 1) := by decide +kernel
theorem dX5_netWith_16 : decode cX5_netWith 16 = .ok (.iload_n 3, 1) := by decide +kernel
theorem dX5_netWith_17 : decode cX5_netWith 17 = .ok (.iadd, 1) := by decide +kernel
theorem dX5_netWith_18 : decode cX5_netWith 18 = .ok (.iload_n 2, 1) := by decide +kernel
theorem dX5_netWith_19 : decode cX5_netWith 19 = .ok (.iload_n 3, 1) := by decide +kernel
theorem dX5_netWith_20 : decode cX5_netWith 20 = .ok (.ishr, 1) := by decide +kernel
theorem dX5_netWith_21 : decode cX5_netWith 21 = .ok (.iconst 1, 1) := by decide +kernel
theorem dX5_netWith_22 : decode cX5_netWith 22 = .ok (.iand, 1) := by decide +kernel
theorem dX5_netWith_23 : decode cX5_netWith 23 = .ok (.iastore, 1) := by decide +kernel
theorem dX5_netWith_24 : decode cX5_netWith 24 = .ok (.iinc 3 1, 3) := by decide +kernel
theorem dX5_netWith_27 : decode cX5_netWith 27 = .ok (.goto (-21), 3) := by decide +kernel
theorem dX5_netWith_30 : decode cX5_netWith 30 = .ok (.aload_n 0, 1) := by decide +kernel
theorem dX5_netWith_31 : decode cX5_netWith 31 = .ok (.invokevirtual 321, 3) := by decide +kernel
theorem dX5_netWith_34 : decode cX5_netWith 34 = .ok (.aload_n 0, 1) := by decide +kernel
theorem dX5_netWith_35 : decode cX5_netWith 35 = .ok (.iload_n 1, 1) := by decide +kernel
theorem dX5_netWith_36 : decode cX5_netWith 36 = .ok (.invokevirtual 353, 3) := by decide +kernel
theorem dX5_netWith_39 : decode cX5_netWith 39 = .ok (.lreturn, 1) := by decide +kernel
theorem dX5_netBy_0 : decode cX5_netBy 0 = .ok (.aload_n 0, 1) := by decide +kernel
theorem dX5_netBy_1 : decode cX5_netBy 1 = .ok (.invokevirtual 212, 3) := by decide +kernel
theorem dX5_netBy_4 : decode cX5_netBy 4 = .ok (.aload_n 0, 1) := by decide +kernel
theorem dX5_netBy_5 : decode cX5_netBy 5 = .ok (.aload_n 0, 1) := by decide +kernel
theorem dX5_netBy_6 : decode cX5_netBy 6 = .ok (.iload_n 1, 1) := by decide +kernel
theorem dX5_netBy_7 : decode cX5_netBy 7 = .ok (.invokevirtual 234, 3) := by decide +kernel
theorem dX5_netBy_10 : decode cX5_netBy 10 = .ok (.ifCond .ne 7, 3) := by decide +kernel
theorem dX5_netBy_13 : decode cX5_netBy 13 = .ok (.iconst 1, 1) := by decide +kernel
theorem dX5_netBy_14 : decode cX5_netBy 14 = .ok (.goto 4, 3) := by decide +kernel
theorem dX5_netBy_17 : decode cX5_netBy 17 = .ok (.iconst 0, 1) := by decide +kernel
theorem dX5_netBy_18 : decode cX5_netBy 18 = .ok (.iconst 1, 1) := by decide +kernel
theorem dX5_netBy_19 : decode cX5_netBy 19 = .ok (.invokevirtual 215, 3) := by decide +kernel
theorem dX5_netBy_22 : decode cX5_netBy 22 = .ok (.ifCond .ne 28, 3) := by decide +kernel
theorem dX5_netBy_25 : decode cX5_netBy 25 = .ok (.aload_n 0, 1) := by decide +kernel
theorem dX5_netBy_26 : decode cX5_netBy 26 = .ok (.iload_n 2, 1) := by decide +kernel
theorem dX5_netBy_27 : decode cX5_netBy 27 = .ok (.i2l, 1) := by decide +kernel
theorem dX5_netBy_28 : decode cX5_netBy 28 = .ok (.lconst 0, 1) := by decide +kernel
theorem dX5_netBy_29 : decode cX5_netBy 29 = .ok (.ldc2_w 356, 3) := by decide +kernel
theorem dX5_netBy_32 : decode cX5_netBy 32 = .ok (.invokestatic 161, 3) := by decide +kernel
theorem dX5_netBy_35 : decode cX5_netBy 35 = .ok (.ifCond .ne 7, 3) := by decide +kernel
theorem dX5_netBy_38 : decode cX5_netBy 38 = .ok (.iconst 1, 1) := by decide +kernel
theorem dX5_netBy_39 : decode cX5_netBy 39 = .ok (.goto 4, 3) := by decide +kernel
theorem dX5_netBy_42 : decode cX5_netBy 42 = .ok (.iconst 0, 1) := by decide +kernel
theorem dX5_netBy_43 : decode cX5_netBy 43 = .ok (.iconst 2, 1) := by decide +kernel
theorem dX5_netBy_44 : decode cX5_netBy 44 = .ok (.invokevirtual 215, 3) := by decide +kernel
theorem dX5_netBy_47 : decode cX5_netBy 47 = .ok (.ifCond .eq 7, 3) := by decide +kernel
theorem dX5_netBy_50 : decode cX5_netBy 50 = .ok (.ldc2_w 351, 3) := by decide +kernel
theorem dX5_netBy_53 : decode cX5_netBy 53 = .ok (.lreturn, 1) := by decide +kernel
theorem dX5_netBy_54 : decode cX5_netBy 54 = .ok (.aload_n 0, 1) := by decide +kernel
theorem dX5_netBy_55 : decode cX5_netBy 55 = .ok (.iload_n 1, 1) := by decide +kernel
theorem dX5_netBy_56 : decode cX5_netBy 56 = .ok (.iload_n 2, 1) := by decide +kernel
theorem dX5_netBy_57 : decode cX5_netBy 57 = .ok (.invokevirtual 358, 3) := by decide +kernel
theorem dX5_netBy_60 : decode cX5_netBy 60 = .ok (.lreturn, 1) := by decide +kernel
theorem dX5_wished_0 : decode cX5_wished 0 = .ok (.aload_n 0, 1) := by decide +kernel
theorem dX5_wished_1 : decode cX5_wished 1 = .ok (.invokevirtual 212, 3) := by decide +kernel
theorem dX5_wished_4 : decode cX5_wished 4 = .ok (.aload_n 0, 1) := by decide +kernel
theorem dX5_wished_5 : decode cX5_wished 5 = .ok (.aload_n 0, 1) := by decide +kernel
theorem dX5_wished_6 : decode cX5_wished 6 = .ok (.iload_n 1, 1) := by decide +kernel
theorem dX5_wished_7 : decode cX5_wished 7 = .ok (.invokevirtual 234, 3) := by decide +kernel
theorem dX5_wished_10 : decode cX5_wished 10 = .ok (.ifCond .ne 7, 3) := by decide +kernel
theorem dX5_wished_13 : decode cX5_wished 13 = .ok (.iconst 1, 1) := by decide +kernel
theorem dX5_wished_14 : decode cX5_wished 14 = .ok (.goto 4, 3) := by decide +kernel
theorem dX5_wished_17 : decode cX5_wished 17 = .ok (.iconst 0, 1) := by decide +kernel
theorem dX5_wished_18 : decode cX5_wished 18 = .ok (.iconst 1, 1) := by decide +kernel
theorem dX5_wished_19 : decode cX5_wished 19 = .ok (.invokevirtual 215, 3) := by decide +kernel
theorem dX5_wished_22 : decode cX5_wished 22 = .ok (.ifCond .eq 5, 3) := by decide +kernel
theorem dX5_wished_25 : decode cX5_wished 25 = .ok (.iconst (-1), 1) := by decide +kernel
theorem dX5_wished_26 : decode cX5_wished 26 = .ok (.ireturn, 1) := by decide +kernel
theorem dX5_wished_27 : decode cX5_wished 27 = .ok (.iconst 0, 1) := by decide +kernel
theorem dX5_wished_28 : decode cX5_wished 28 = .ok (.istore_n 2, 1) := by decide +kernel
theorem dX5_wished_29 : decode cX5_wished 29 = .ok (.aload_n 0, 1) := by decide +kernel
theorem dX5_wished_30 : decode cX5_wished 30 = .ok (.iload_n 1, 1) := by decide +kernel
theorem dX5_wished_31 : decode cX5_wished 31 = .ok (.iconst 0, 1) := by decide +kernel
theorem dX5_wished_32 : decode cX5_wished 32 = .ok (.invokevirtual 358, 3) := by decide +kernel
theorem dX5_wished_35 : decode cX5_wished 35 = .ok (.lstore_n 3, 1) := by decide +kernel
theorem dX5_wished_36 : decode cX5_wished 36 = .ok (.iconst 1, 1) := by decide +kernel
theorem dX5_wished_37 : decode cX5_wished 37 = .ok (.istore 5, 2) := by decide +kernel
theorem dX5_wished_39 : decode cX5_wished 39 = .ok (.iload 5, 2) := by decide +kernel
theorem dX5_wished_41 : decode cX5_wished 41 = .ok (.bipush 8, 2) := by decide +kernel
theorem dX5_wished_43 : decode cX5_wished 43 = .ok (.if_icmp .ge 31, 3) := by decide +kernel
theorem dX5_wished_46 : decode cX5_wished 46 = .ok (.aload_n 0, 1) := by decide +kernel
theorem dX5_wished_47 : decode cX5_wished 47 = .ok (.iload_n 1, 1) := by decide +kernel
theorem dX5_wished_48 : decode cX5_wished 48 = .ok (.iload 5, 2) := by decide +kernel
theorem dX5_wished_50 : decode cX5_wished 50 = .ok (.invokevirtual 358, 3) := by decide +kernel
theorem dX5_wished_53 : decode cX5_wished 53 = .ok (.lstore 6, 2) := by decide +kernel
theorem dX5_wished_55 : decode cX5_wished 55 = .ok (.lload 6, 2) := by decide +kernel
theorem dX5_wished_57 : decode cX5_wished 57 = .ok (.lload_n 3, 1) := by decide +kernel
theorem dX5_wished_58 : decode cX5_wished 58 = .ok (.lcmp, 1) := by decide +kernel
theorem dX5_wished_59 : decode cX5_wished 59 = .ok (.ifCond .le 9, 3) := by decide +kernel
theorem dX5_wished_62 : decode cX5_wished 62 = .ok (.lload 6, 2) := by decide +kernel
theorem dX5_wished_64 : decode cX5_wished 64 = .ok (.lstore_n 3, 1) := by decide +kernel
theorem dX5_wished_65 : decode cX5_wished 65 = .ok (.iload 5, 2) := by decide +kernel
theorem dX5_wished_67 : decode cX5_wished 67 = .ok (.istore_n 2, 1) := by decide +kernel
theorem dX5_wished_68 : decode cX5_wished 68 = .ok (.iinc 5 1, 3) := by decide +kernel
theorem dX5_wished_71 : decode cX5_wished 71 = .ok (.goto (-32), 3) := by decide +kernel
theorem dX5_wished_74 : decode cX5_wished 74 = .ok (.iload_n 2, 1) := by decide +kernel
theorem dX5_wished_75 : decode cX5_wished 75 = .ok (.ireturn, 1) := by decide +kernel
theorem dX5_gap_0 : decode cX5_gap 0 = .ok (.aload_n 0, 1) := by decide +kernel
theorem dX5_gap_1 : decode cX5_gap 1 = .ok (.invokevirtual 212, 3) := by decide +kernel
theorem dX5_gap_4 : decode cX5_gap 4 = .ok (.aload_n 0, 1) := by decide +kernel
theorem dX5_gap_5 : decode cX5_gap 5 = .ok (.aload_n 0, 1) := by decide +kernel
theorem dX5_gap_6 : decode cX5_gap 6 = .ok (.iload_n 1, 1) := by decide +kernel
theorem dX5_gap_7 : decode cX5_gap 7 = .ok (.invokevirtual 234, 3) := by decide +kernel
theorem dX5_gap_10 : decode cX5_gap 10 = .ok (.ifCond .ne 7, 3) := by decide +kernel
theorem dX5_gap_13 : decode cX5_gap 13 = .ok (.iconst 1, 1) := by decide +kernel
theorem dX5_gap_14 : decode cX5_gap 14 = .ok (.goto 4, 3) := by decide +kernel
theorem dX5_gap_17 : decode cX5_gap 17 = .ok (.iconst 0, 1) := by decide +kernel
theorem dX5_gap_18 : decode cX5_gap 18 = .ok (.iconst 1, 1) := by decide +kernel
theorem dX5_gap_19 : decode cX5_gap 19 = .ok (.invokevirtual 215, 3) := by decide +kernel
theorem dX5_gap_22 : decode cX5_gap 22 = .ok (.ifCond .eq 7, 3) := by decide +kernel
theorem dX5_gap_25 : decode cX5_gap 25 = .ok (.ldc2_w 351, 3) := by decide +kernel
theorem dX5_gap_28 : decode cX5_gap 28 = .ok (.lreturn, 1) := by decide +kernel
theorem dX5_gap_29 : decode cX5_gap 29 = .ok (.aload_n 0, 1) := by decide +kernel
theorem dX5_gap_30 : decode cX5_gap 30 = .ok (.getfield 13, 3) := by decide +kernel
theorem dX5_gap_33 : decode cX5_gap 33 = .ok (.iconst 2, 1) := by decide +kernel
theorem dX5_gap_34 : decode cX5_gap 34 = .ok (.iaload, 1) := by decide +kernel
theorem dX5_gap_35 : decode cX5_gap 35 = .ok (.iconst 2, 1) := by decide +kernel
theorem dX5_gap_36 : decode cX5_gap 36 = .ok (.aload_n 0, 1) := by decide +kernel
theorem dX5_gap_37 : decode cX5_gap 37 = .ok (.getfield 13, 3) := by decide +kernel
theorem dX5_gap_40 : decode cX5_gap 40 = .ok (.iconst 3, 1) := by decide +kernel
theorem dX5_gap_41 : decode cX5_gap 41 = .ok (.iaload, 1) := by decide +kernel
theorem dX5_gap_42 : decode cX5_gap 42 = .ok (.imul, 1) := by decide +kernel
theorem dX5_gap_43 : decode cX5_gap 43 = .ok (.iadd, 1) := by decide +kernel
theorem dX5_gap_44 : decode cX5_gap 44 = .ok (.istore_n 2, 1) := by decide +kernel
theorem dX5_gap_45 : decode cX5_gap 45 = .ok (.aload_n 0, 1) := by decide +kernel
theorem dX5_gap_46 : decode cX5_gap 46 = .ok (.iload_n 1, 1) := by decide +kernel
theorem dX5_gap_47 : decode cX5_gap 47 = .ok (.iload_n 2, 1) := by decide +kernel
theorem dX5_gap_48 : decode cX5_gap 48 = .ok (.iconst 4, 1) := by decide +kernel
theorem dX5_gap_49 : decode cX5_gap 49 = .ok (.iadd, 1) := by decide +kernel
theorem dX5_gap_50 : decode cX5_gap 50 = .ok (.invokevirtual 358, 3) := by decide +kernel
theorem dX5_gap_53 : decode cX5_gap 53 = .ok (.lstore_n 3, 1) := by decide +kernel
theorem dX5_gap_54 : decode cX5_gap 54 = .ok (.lload_n 3, 1) := by decide +kernel
theorem dX5_gap_55 : decode cX5_gap 55 = .ok (.aload_n 0, 1) := by decide +kernel
theorem dX5_gap_56 : decode cX5_gap 56 = .ok (.iload_n 1, 1) := by decide +kernel
theorem dX5_gap_57 : decode cX5_gap 57 = .ok (.iload_n 2, 1) := by decide +kernel
theorem dX5_gap_58 : decode cX5_gap 58 = .ok (.invokevirtual 358, 3) := by decide +kernel
theorem dX5_gap_61 : decode cX5_gap 61 = .ok (.lsub, 1) := by decide +kernel
theorem dX5_gap_62 : decode cX5_gap 62 = .ok (.lreturn, 1) := by decide +kernel
theorem dX5_neededOf_0 : decode cX5_neededOf 0 = .ok (.aload_n 0, 1) := by decide +kernel
theorem dX5_neededOf_1 : decode cX5_neededOf 1 = .ok (.iload_n 1, 1) := by decide +kernel
theorem dX5_neededOf_2 : decode cX5_neededOf 2 = .ok (.invokevirtual 309, 3) := by decide +kernel
theorem dX5_neededOf_5 : decode cX5_neededOf 5 = .ok (.lconst 0, 1) := by decide +kernel
theorem dX5_neededOf_6 : decode cX5_neededOf 6 = .ok (.lstore_n 2, 1) := by decide +kernel
theorem dX5_neededOf_7 : decode cX5_neededOf 7 = .ok (.iconst 0, 1) := by decide +kernel
theorem dX5_neededOf_8 : decode cX5_neededOf 8 = .ok (.istore 4, 2) := by decide +kernel
theorem dX5_neededOf_10 : decode cX5_neededOf 10 = .ok (.iload 4, 2) := by decide +kernel
theorem dX5_neededOf_12 : decode cX5_neededOf 12 = .ok (.aload_n 0, 1) := by decide +kernel
theorem dX5_neededOf_13 : decode cX5_neededOf 13 = .ok (.getfield 17, 3) := by decide +kernel
theorem dX5_neededOf_16 : decode cX5_neededOf 16 = .ok (.iconst 0, 1) := by decide +kernel
theorem dX5_neededOf_17 : decode cX5_neededOf 17 = .ok (.iaload, 1) := by decide +kernel
theorem dX5_neededOf_18 : decode cX5_neededOf 18 = .ok (.if_icmp .ge 22, 3) := by decide +kernel
theorem dX5_neededOf_21 : decode cX5_neededOf 21 = .ok (.lload_n 2, 1) := by decide +kernel
theorem dX5_neededOf_22 : decode cX5_neededOf 22 = .ok (.aload_n 0, 1) := by decide +kernel
theorem dX5_neededOf_23 : decode cX5_neededOf 23 = .ok (.getfield 17, 3) := by decide +kernel
theorem dX5_neededOf_26 : decode cX5_neededOf 26 = .ok (.iload_n 1, 1) := by decide +kernel
theorem dX5_neededOf_27 : decode cX5_neededOf 27 = .ok (.iload 4, 2) := by decide +kernel
theorem dX5_neededOf_29 : decode cX5_neededOf 29 = .ok (.invokestatic 295, 3) := by decide +kernel
theorem dX5_neededOf_32 : decode cX5_neededOf 32 = .ok (.ladd, 1) := by decide +kernel
theorem dX5_neededOf_33 : decode cX5_neededOf 33 = .ok (.lstore_n 2, 1) := by decide +kernel
theorem dX5_neededOf_34 : decode cX5_neededOf 34 = .ok (.iinc 4 1, 3) := by decide +kernel
theorem dX5_neededOf_37 : decode cX5_neededOf 37 = .ok (.goto (-27), 3) := by decide +kernel
theorem dX5_neededOf_40 : decode cX5_neededOf 40 = .ok (.iconst 0, 1) := by decide +kernel
theorem dX5_neededOf_41 : decode cX5_neededOf 41 = .ok (.istore 4, 2) := by decide +kernel
theorem dX5_neededOf_43 : decode cX5_neededOf 43 = .ok (.iload 4, 2) := by decide +kernel
theorem dX5_neededOf_45 : decode cX5_neededOf 45 = .ok (.aload_n 0, 1) := by decide +kernel
theorem dX5_neededOf_46 : decode cX5_neededOf 46 = .ok (.getfield 17, 3) := by decide +kernel
theorem dX5_neededOf_49 : decode cX5_neededOf 49 = .ok (.iconst 1, 1) := by decide +kernel
theorem dX5_neededOf_50 : decode cX5_neededOf 50 = .ok (.iaload, 1) := by decide +kernel
theorem dX5_neededOf_51 : decode cX5_neededOf 51 = .ok (.if_icmp .ge 32, 3) := by decide +kernel
theorem dX5_neededOf_54 : decode cX5_neededOf 54 = .ok (.lload_n 2, 1) := by decide +kernel
theorem dX5_neededOf_55 : decode cX5_neededOf 55 = .ok (.aload_n 0, 1) := by decide +kernel
theorem dX5_neededOf_56 : decode cX5_neededOf 56 = .ok (.getfield 17, 3) := by decide +kernel
theorem dX5_neededOf_59 : decode cX5_neededOf 59 = .ok (.iload_n 1, 1) := by decide +kernel
theorem dX5_neededOf_60 : decode cX5_neededOf 60 = .ok (.iload 4, 2) := by decide +kernel
theorem dX5_neededOf_62 : decode cX5_neededOf 62 = .ok (.invokestatic 266, 3) := by decide +kernel
theorem dX5_neededOf_65 : decode cX5_neededOf 65 = .ok (.aload_n 0, 1) := by decide +kernel
theorem dX5_neededOf_66 : decode cX5_neededOf 66 = .ok (.getfield 46, 3) := by decide +kernel
theorem dX5_neededOf_69 : decode cX5_neededOf 69 = .ok (.iconst 4, 1) := by decide +kernel
theorem dX5_neededOf_70 : decode cX5_neededOf 70 = .ok (.iload 4, 2) := by decide +kernel
theorem dX5_neededOf_72 : decode cX5_neededOf 72 = .ok (.iadd, 1) := by decide +kernel
theorem dX5_neededOf_73 : decode cX5_neededOf 73 = .ok (.laload, 1) := by decide +kernel
theorem dX5_neededOf_74 : decode cX5_neededOf 74 = .ok (.lsub, 1) := by decide +kernel
theorem dX5_neededOf_75 : decode cX5_neededOf 75 = .ok (.ladd, 1) := by decide +kernel
theorem dX5_neededOf_76 : decode cX5_neededOf 76 = .ok (.lstore_n 2, 1) := by decide +kernel
theorem dX5_neededOf_77 : decode cX5_neededOf 77 = .ok (.iinc 4 1, 3) := by decide +kernel
theorem dX5_neededOf_80 : decode cX5_neededOf 80 = .ok (.goto (-37), 3) := by decide +kernel
theorem dX5_neededOf_83 : decode cX5_neededOf 83 = .ok (.lload_n 2, 1) := by decide +kernel
theorem dX5_neededOf_84 : decode cX5_neededOf 84 = .ok (.lreturn, 1) := by decide +kernel
theorem dX5_enough_0 : decode cX5_enough 0 = .ok (.aload_n 0, 1) := by decide +kernel
theorem dX5_enough_1 : decode cX5_enough 1 = .ok (.invokevirtual 212, 3) := by decide +kernel
theorem dX5_enough_4 : decode cX5_enough 4 = .ok (.aload_n 0, 1) := by decide +kernel
theorem dX5_enough_5 : decode cX5_enough 5 = .ok (.aload_n 0, 1) := by decide +kernel
theorem dX5_enough_6 : decode cX5_enough 6 = .ok (.getfield 225, 3) := by decide +kernel
theorem dX5_enough_9 : decode cX5_enough 9 = .ok (.ifCond .ne 7, 3) := by decide +kernel
theorem dX5_enough_12 : decode cX5_enough 12 = .ok (.iconst 1, 1) := by decide +kernel
theorem dX5_enough_13 : decode cX5_enough 13 = .ok (.goto 4, 3) := by decide +kernel
theorem dX5_enough_16 : decode cX5_enough 16 = .ok (.iconst 0, 1) := by decide +kernel
theorem dX5_enough_17 : decode cX5_enough 17 = .ok (.iconst 1, 1) := by decide +kernel
theorem dX5_enough_18 : decode cX5_enough 18 = .ok (.invokevirtual 215, 3) := by decide +kernel
theorem dX5_enough_21 : decode cX5_enough 21 = .ok (.ifCond .eq 5, 3) := by decide +kernel
theorem dX5_enough_24 : decode cX5_enough 24 = .ok (.iconst (-1), 1) := by decide +kernel
theorem dX5_enough_25 : decode cX5_enough 25 = .ok (.ireturn, 1) := by decide +kernel
theorem dX5_enough_26 : decode cX5_enough 26 = .ok (.aload_n 0, 1) := by decide +kernel
theorem dX5_enough_27 : decode cX5_enough 27 = .ok (.invokevirtual 318, 3) := by decide +kernel
theorem dX5_enough_30 : decode cX5_enough 30 = .ok (.lconst 0, 1) := by decide +kernel
theorem dX5_enough_31 : decode cX5_enough 31 = .ok (.lstore_n 1, 1) := by decide +kernel
theorem dX5_enough_32 : decode cX5_enough 32 = .ok (.iconst 0, 1) := by decide +kernel
theorem dX5_enough_33 : decode cX5_enough 33 = .ok (.istore_n 3, 1) := by decide +kernel
theorem dX5_enough_34 : decode cX5_enough 34 = .ok (.iload_n 3, 1) := by decide +kernel
theorem dX5_enough_35 : decode cX5_enough 35 = .ok (.aload_n 0, 1) := by decide +kernel
theorem dX5_enough_36 : decode cX5_enough 36 = .ok (.getfield 17, 3) := by decide +kernel
theorem dX5_enough_39 : decode cX5_enough 39 = .ok (.iconst 0, 1) := by decide +kernel
theorem dX5_enough_40 : decode cX5_enough 40 = .ok (.iaload, 1) := by decide +kernel
theorem dX5_enough_41 : decode cX5_enough 41 = .ok (.if_icmp .ge 95, 3) := by decide +kernel
theorem dX5_enough_44 : decode cX5_enough 44 = .ok (.aload_n 0, 1) := by decide +kernel
theorem dX5_enough_45 : decode cX5_enough 45 = .ok (.getfield 17, 3) := by decide +kernel
theorem dX5_enough_48 : decode cX5_enough 48 = .ok (.iload_n 3, 1) := by decide +kernel
theorem dX5_enough_49 : decode cX5_enough 49 = .ok (.iconst 5, 1) := by decide +kernel
theorem dX5_enough_50 : decode cX5_enough 50 = .ok (.invokestatic 243, 3) := by decide +kernel
theorem dX5_enough_53 : decode cX5_enough 53 = .ok (.iconst 1, 1) := by decide +kernel
theorem dX5_enough_54 : decode cX5_enough 54 = .ok (.if_icmp .ne 6, 3) := by decide +kernel
theorem dX5_enough_57 : decode cX5_enough 57 = .ok (.goto 73, 3) := by decide +kernel
theorem dX5_enough_60 : decode cX5_enough 60 = .ok (.aload_n 0, 1) := by decide +kernel
theorem dX5_enough_61 : decode cX5_enough 61 = .ok (.iload_n 3, 1) := by decide +kernel
theorem dX5_enough_62 : decode cX5_enough 62 = .ok (.invokevirtual 362, 3) := by decide +kernel
theorem dX5_enough_65 : decode cX5_enough 65 = .ok (.lstore 4, 2) := by decide +kernel
theorem dX5_enough_67 : decode cX5_enough 67 = .ok (.aload_n 0, 1) := by decide +kernel
theorem dX5_enough_68 : decode cX5_enough 68 = .ok (.getfield 17, 3) := by decide +kernel
theorem dX5_enough_71 : decode cX5_enough 71 = .ok (.iload_n 3, 1) := by decide +kernel
theorem dX5_enough_72 : decode cX5_enough 72 = .ok (.iconst 0, 1) := by decide +kernel
theorem dX5_enough_73 : decode cX5_enough 73 = .ok (.invokestatic 243, 3) := by decide +kernel
theorem dX5_enough_76 : decode cX5_enough 76 = .ok (.i2l, 1) := by decide +kernel
theorem dX5_enough_77 : decode cX5_enough 77 = .ok (.aload_n 0, 1) := by decide +kernel
theorem dX5_enough_78 : decode cX5_enough 78 = .ok (.getfield 17, 3) := by decide +kernel
theorem dX5_enough_81 : decode cX5_enough 81 = .ok (.bipush 7, 2) := by decide +kernel
theorem dX5_enough_83 : decode cX5_enough 83 = .ok (.iaload, 1) := by decide +kernel
theorem dX5_enough_84 : decode cX5_enough 84 = .ok (.i2l, 1) := by decide +kernel
theorem dX5_enough_85 : decode cX5_enough 85 = .ok (.invokestatic 286, 3) := by decide +kernel
theorem dX5_enough_88 : decode cX5_enough 88 = .ok (.lstore 6, 2) := by decide +kernel
theorem dX5_enough_90 : decode cX5_enough 90 = .ok (.lload 4, 2) := by decide +kernel
theorem dX5_enough_92 : decode cX5_enough 92 = .ok (.lload 6, 2) := by decide +kernel
theorem dX5_enough_94 : decode cX5_enough 94 = .ok (.ladd, 1) := by decide +kernel
theorem dX5_enough_95 : decode cX5_enough 95 = .ok (.lconst 1, 1) := by decide +kernel
theorem dX5_enough_96 : decode cX5_enough 96 = .ok (.lsub, 1) := by decide +kernel
theorem dX5_enough_97 : decode cX5_enough 97 = .ok (.lload 6, 2) := by decide +kernel
theorem dX5_enough_99 : decode cX5_enough 99 = .ok (.ldiv, 1) := by decide +kernel
theorem dX5_enough_100 : decode cX5_enough 100 = .ok (.lstore 8, 2) := by decide +kernel
theorem dX5_enough_102 : decode cX5_enough 102 = .ok (.lload 4, 2) := by decide +kernel
theorem dX5_enough_104 : decode cX5_enough 104 = .ok (.ldc2_w 289, 3) := by decide +kernel
theorem dX5_enough_107 : decode cX5_enough 107 = .ok (.lcmp, 1) := by decide +kernel
theorem dX5_enough_108 : decode cX5_enough 108 = .ok (.ifCond .gt 12, 3) := by decide +kernel
theorem dX5_enough_111 : decode cX5_enough 111 = .ok (.lload 8, 2) := by decide +kernel
theorem dX5_enough_113 : decode cX5_enough 113 = .ok (.ldc2_w 365, 3) := by decide +kernel
theorem dX5_enough_116 : decode cX5_enough 116 = .ok (.lcmp, 1) := by decide +kernel
theorem dX5_enough_117 : decode cX5_enough 117 = .ok (.ifCond .le 6, 3) := by decide +kernel
theorem dX5_enough_120 : decode cX5_enough 120 = .ok (.bipush (-2), 2) := by decide +kernel
theorem dX5_enough_122 : decode cX5_enough 122 = .ok (.ireturn, 1) := by decide +kernel
theorem dX5_enough_123 : decode cX5_enough 123 = .ok (.lload_n 1, 1) := by decide +kernel
theorem dX5_enough_124 : decode cX5_enough 124 = .ok (.lload 8, 2) := by decide +kernel
theorem dX5_enough_126 : decode cX5_enough 126 = .ok (.invokestatic 286, 3) := by decide +kernel
theorem dX5_enough_129 : decode cX5_enough 129 = .ok (.lstore_n 1, 1) := by decide +kernel
theorem dX5_enough_130 : decode cX5_enough 130 = .ok (.iinc 3 1, 3) := by decide +kernel
theorem dX5_enough_133 : decode cX5_enough 133 = .ok (.goto (-99), 3) := by decide +kernel
theorem dX5_enough_136 : decode cX5_enough 136 = .ok (.lload_n 1, 1) := by decide +kernel
theorem dX5_enough_137 : decode cX5_enough 137 = .ok (.l2i, 1) := by decide +kernel
theorem dX5_enough_138 : decode cX5_enough 138 = .ok (.ireturn, 1) := by decide +kernel
theorem dX5_netShifted_0 : decode cX5_netShifted 0 = .ok (.aload_n 0, 1) := by decide +kernel
theorem dX5_netShifted_1 : decode cX5_netShifted 1 = .ok (.invokevirtual 318, 3) := by decide +kernel
theorem dX5_netShifted_4 : decode cX5_netShifted 4 = .ok (.aload_n 0, 1) := by decide +kernel
theorem dX5_netShifted_5 : decode cX5_netShifted 5 = .ok (.getfield 17, 3) := by decide +kernel
theorem dX5_netShifted_8 : decode cX5_netShifted 8 = .ok (.iload_n 1, 1) := by decide +kernel
theorem dX5_netShifted_9 : decode cX5_netShifted 9 = .ok (.iconst 1, 1) := by decide +kernel
theorem dX5_netShifted_10 : decode cX5_netShifted 10 = .ok (.invokestatic 243, 3) := by decide +kernel
theorem dX5_netShifted_13 : decode cX5_netShifted 13 = .ok (.aload_n 0, 1) := by decide +kernel
theorem dX5_netShifted_14 : decode cX5_netShifted 14 = .ok (.getfield 17, 3) := by decide +kernel
theorem dX5_netShifted_17 : decode cX5_netShifted 17 = .ok (.iload_n 2, 1) := by decide +kernel
theorem dX5_netShifted_18 : decode cX5_netShifted 18 = .ok (.iconst 1, 1) := by decide +kernel
theorem dX5_netShifted_19 : decode cX5_netShifted 19 = .ok (.invokestatic 243, 3) := by decide +kernel
theorem dX5_netShifted_22 : decode cX5_netShifted 22 = .ok (.iadd, 1) := by decide +kernel
theorem dX5_netShifted_23 : decode cX5_netShifted 23 = .ok (.istore 4, 2) := by decide +kernel
theorem dX5_netShifted_25 : decode cX5_netShifted 25 = .ok (.aload_n 0, 1) := by decide +kernel
theorem dX5_netShifted_26 : decode cX5_netShifted 26 = .ok (.getfield 17, 3) := by decide +kernel
theorem dX5_netShifted_29 : decode cX5_netShifted 29 = .ok (.bipush 10, 2) := by decide +kernel
theorem dX5_netShifted_31 : decode cX5_netShifted 31 = .ok (.bipush 6, 2) := by decide +kernel
theorem dX5_netShifted_33 : decode cX5_netShifted 33 = .ok (.iload_n 1, 1) := by decide +kernel
theorem dX5_netShifted_34 : decode cX5_netShifted 34 = .ok (.imul, 1) := by decide +kernel
theorem dX5_netShifted_35 : decode cX5_netShifted 35 = .ok (.iadd, 1) := by decide +kernel
theorem dX5_netShifted_36 : decode cX5_netShifted 36 = .ok (.iconst 1, 1) := by decide +kernel
theorem dX5_netShifted_37 : decode cX5_netShifted 37 = .ok (.iadd, 1) := by decide +kernel
theorem dX5_netShifted_38 : decode cX5_netShifted 38 = .ok (.iload_n 3, 1) := by decide +kernel
theorem dX5_netShifted_39 : decode cX5_netShifted 39 = .ok (.iastore, 1) := by decide +kernel
theorem dX5_netShifted_40 : decode cX5_netShifted 40 = .ok (.aload_n 0, 1) := by decide +kernel
theorem dX5_netShifted_41 : decode cX5_netShifted 41 = .ok (.getfield 17, 3) := by decide +kernel
theorem dX5_netShifted_44 : decode cX5_netShifted 44 = .ok (.bipush 10, 2) := by decide +kernel
theorem dX5_netShifted_46 : decode cX5_netShifted 46 = .ok (.bipush 6, 2) := by decide +kernel
theorem dX5_netShifted_48 : decode cX5_netShifted 48 = .ok (.iload_n 2, 1) := by decide +kernel
theorem dX5_netShifted_49 : decode cX5_netShifted 49 = .ok (.imul, 1) := by decide +kernel
theorem dX5_netShifted_50 : decode cX5_netShifted 50 = .ok (.iadd, 1) := by decide +kernel
theorem dX5_netShifted_51 : decode cX5_netShifted 51 = .ok (.iconst 1, 1) := by decide +kernel
theorem dX5_netShifted_52 : decode cX5_netShifted 52 = .ok (.iadd, 1) := by decide +kernel
theorem dX5_netShifted_53 : decode cX5_netShifted 53 = .ok (.iload 4, 2) := by decide +kernel
theorem dX5_netShifted_55 : decode cX5_netShifted 55 = .ok (.iload_n 3, 1) := by decide +kernel
theorem dX5_netShifted_56 : decode cX5_netShifted 56 = .ok (.isub, 1) := by decide +kernel
theorem dX5_netShifted_57 : decode cX5_netShifted 57 = .ok (.iastore, 1) := by decide +kernel
theorem dX5_netShifted_58 : decode cX5_netShifted 58 = .ok (.aload_n 0, 1) := by decide +kernel
theorem dX5_netShifted_59 : decode cX5_netShifted 59 = .ok (.invokevirtual 321, 3) := by decide +kernel
theorem dX5_netShifted_62 : decode cX5_netShifted 62 = .ok (.aload_n 0, 1) := by decide +kernel
theorem dX5_netShifted_63 : decode cX5_netShifted 63 = .ok (.iload_n 1, 1) := by decide +kernel
theorem dX5_netShifted_64 : decode cX5_netShifted 64 = .ok (.invokevirtual 353, 3) := by decide +kernel
theorem dX5_netShifted_67 : decode cX5_netShifted 67 = .ok (.lreturn, 1) := by decide +kernel
theorem dX5_would_0 : decode cX5_would 0 = .ok (.aload_n 0, 1) := by decide +kernel
theorem dX5_would_1 : decode cX5_would 1 = .ok (.invokevirtual 212, 3) := by decide +kernel
theorem dX5_would_4 : decode cX5_would 4 = .ok (.aload_n 0, 1) := by decide +kernel
theorem dX5_would_5 : decode cX5_would 5 = .ok (.aload_n 0, 1) := by decide +kernel
theorem dX5_would_6 : decode cX5_would 6 = .ok (.iload_n 1, 1) := by decide +kernel
theorem dX5_would_7 : decode cX5_would 7 = .ok (.invokevirtual 234, 3) := by decide +kernel
theorem dX5_would_10 : decode cX5_would 10 = .ok (.ifCond .eq 11, 3) := by decide +kernel
theorem dX5_would_13 : decode cX5_would 13 = .ok (.aload_n 0, 1) := by decide +kernel
theorem dX5_would_14 : decode cX5_would 14 = .ok (.iload_n 2, 1) := by decide +kernel
theorem dX5_would_15 : decode cX5_would 15 = .ok (.invokevirtual 234, 3) := by decide +kernel
theorem dX5_would_18 : decode cX5_would 18 = .ok (.ifCond .ne 7, 3) := by decide +kernel
theorem dX5_would_21 : decode cX5_would 21 = .ok (.iconst 1, 1) := by decide +kernel
theorem dX5_would_22 : decode cX5_would 22 = .ok (.goto 4, 3) := by decide +kernel
theorem dX5_would_25 : decode cX5_would 25 = .ok (.iconst 0, 1) := by decide +kernel
theorem dX5_would_26 : decode cX5_would 26 = .ok (.iconst 1, 1) := by decide +kernel
theorem dX5_would_27 : decode cX5_would 27 = .ok (.invokevirtual 215, 3) := by decide +kernel
theorem dX5_would_30 : decode cX5_would 30 = .ok (.ifCond .ne 21, 3) := by decide +kernel
theorem dX5_would_33 : decode cX5_would 33 = .ok (.aload_n 0, 1) := by decide +kernel
theorem dX5_would_34 : decode cX5_would 34 = .ok (.iload_n 1, 1) := by decide +kernel
theorem dX5_would_35 : decode cX5_would 35 = .ok (.iload_n 2, 1) := by decide +kernel
theorem dX5_would_36 : decode cX5_would 36 = .ok (.if_icmp .ne 7, 3) := by decide +kernel
theorem dX5_would_39 : decode cX5_would 39 = .ok (.iconst 1, 1) := by decide +kernel
theorem dX5_would_40 : decode cX5_would 40 = .ok (.goto 4, 3) := by decide +kernel
theorem dX5_would_43 : decode cX5_would 43 = .ok (.iconst 0, 1) := by decide +kernel
theorem dX5_would_44 : decode cX5_would 44 = .ok (.iconst 5, 1) := by decide +kernel
theorem dX5_would_45 : decode cX5_would 45 = .ok (.invokevirtual 215, 3) := by decide +kernel
theorem dX5_would_48 : decode cX5_would 48 = .ok (.ifCond .eq 7, 3) := by decide +kernel
theorem dX5_would_51 : decode cX5_would 51 = .ok (.ldc2_w 351, 3) := by decide +kernel
theorem dX5_would_54 : decode cX5_would 54 = .ok (.lreturn, 1) := by decide +kernel
theorem dX5_would_55 : decode cX5_would 55 = .ok (.aload_n 0, 1) := by decide +kernel
theorem dX5_would_56 : decode cX5_would 56 = .ok (.iload_n 3, 1) := by decide +kernel
theorem dX5_would_57 : decode cX5_would 57 = .ok (.i2l, 1) := by decide +kernel
theorem dX5_would_58 : decode cX5_would 58 = .ok (.lconst 0, 1) := by decide +kernel
theorem dX5_would_59 : decode cX5_would 59 = .ok (.aload_n 0, 1) := by decide +kernel
theorem dX5_would_60 : decode cX5_would 60 = .ok (.getfield 13, 3) := by decide +kernel
theorem dX5_would_63 : decode cX5_would 63 = .ok (.iload_n 1, 1) := by decide +kernel
theorem dX5_would_64 : decode cX5_would 64 = .ok (.iconst 1, 1) := by decide +kernel
theorem dX5_would_65 : decode cX5_would 65 = .ok (.invokestatic 243, 3) := by decide +kernel
theorem dX5_would_68 : decode cX5_would 68 = .ok (.aload_n 0, 1) := by decide +kernel
theorem dX5_would_69 : decode cX5_would 69 = .ok (.getfield 13, 3) := by decide +kernel
theorem dX5_would_72 : decode cX5_would 72 = .ok (.iload_n 2, 1) := by decide +kernel
theorem dX5_would_73 : decode cX5_would 73 = .ok (.iconst 1, 1) := by decide +kernel
theorem dX5_would_74 : decode cX5_would 74 = .ok (.invokestatic 243, 3) := by decide +kernel
theorem dX5_would_77 : decode cX5_would 77 = .ok (.iadd, 1) := by decide +kernel
theorem dX5_would_78 : decode cX5_would 78 = .ok (.i2l, 1) := by decide +kernel
theorem dX5_would_79 : decode cX5_would 79 = .ok (.invokestatic 161, 3) := by decide +kernel
theorem dX5_would_82 : decode cX5_would 82 = .ok (.ifCond .ne 7, 3) := by decide +kernel
theorem dX5_would_85 : decode cX5_would 85 = .ok (.iconst 1, 1) := by decide +kernel
theorem dX5_would_86 : decode cX5_would 86 = .ok (.goto 4, 3) := by decide +kernel
theorem dX5_would_89 : decode cX5_would 89 = .ok (.iconst 0, 1) := by decide +kernel
theorem dX5_would_90 : decode cX5_would 90 = .ok (.iconst 2, 1) := by decide +kernel
theorem dX5_would_91 : decode cX5_would 91 = .ok (.invokevirtual 215, 3) := by decide +kernel
theorem dX5_would_94 : decode cX5_would 94 = .ok (.ifCond .eq 7, 3) := by decide +kernel
theorem dX5_would_97 : decode cX5_would 97 = .ok (.ldc2_w 351, 3) := by decide +kernel
theorem dX5_would_100 : decode cX5_would 100 = .ok (.lreturn, 1) := by decide +kernel
theorem dX5_would_101 : decode cX5_would 101 = .ok (.aload_n 0, 1) := by decide +kernel
theorem dX5_would_102 : decode cX5_would 102 = .ok (.iload_n 1, 1) := by decide +kernel
theorem dX5_would_103 : decode cX5_would 103 = .ok (.iload_n 2, 1) := by decide +kernel
theorem dX5_would_104 : decode cX5_would 104 = .ok (.iload_n 3, 1) := by decide +kernel
theorem dX5_would_105 : decode cX5_would 105 = .ok (.invokevirtual 367, 3) := by decide +kernel
theorem dX5_would_108 : decode cX5_would 108 = .ok (.lreturn, 1) := by decide +kernel
theorem dX5_worse_0 : decode cX5_worse 0 = .ok (.aload_n 0, 1) := by decide +kernel
theorem dX5_worse_1 : decode cX5_worse 1 = .ok (.invokevirtual 212, 3) := by decide +kernel
theorem dX5_worse_4 : decode cX5_worse 4 = .ok (.aload_n 0, 1) := by decide +kernel
theorem dX5_worse_5 : decode cX5_worse 5 = .ok (.aload_n 0, 1) := by decide +kernel
theorem dX5_worse_6 : decode cX5_worse 6 = .ok (.iload_n 1, 1) := by decide +kernel
theorem dX5_worse_7 : decode cX5_worse 7 = .ok (.invokevirtual 234, 3) := by decide +kernel
theorem dX5_worse_10 : decode cX5_worse 10 = .ok (.ifCond .eq 11, 3) := by decide +kernel
theorem dX5_worse_13 : decode cX5_worse 13 = .ok (.aload_n 0, 1) := by decide +kernel
theorem dX5_worse_14 : decode cX5_worse 14 = .ok (.iload_n 2, 1) := by decide +kernel
theorem dX5_worse_15 : decode cX5_worse 15 = .ok (.invokevirtual 234, 3) := by decide +kernel
theorem dX5_worse_18 : decode cX5_worse 18 = .ok (.ifCond .ne 7, 3) := by decide +kernel
theorem dX5_worse_21 : decode cX5_worse 21 = .ok (.iconst 1, 1) := by decide +kernel
theorem dX5_worse_22 : decode cX5_worse 22 = .ok (.goto 4, 3) := by decide +kernel
theorem dX5_worse_25 : decode cX5_worse 25 = .ok (.iconst 0, 1) := by decide +kernel
theorem dX5_worse_26 : decode cX5_worse 26 = .ok (.iconst 1, 1) := by decide +kernel
theorem dX5_worse_27 : decode cX5_worse 27 = .ok (.invokevirtual 215, 3) := by decide +kernel
theorem dX5_worse_30 : decode cX5_worse 30 = .ok (.ifCond .ne 48, 3) := by decide +kernel
theorem dX5_worse_33 : decode cX5_worse 33 = .ok (.aload_n 0, 1) := by decide +kernel
theorem dX5_worse_34 : decode cX5_worse 34 = .ok (.iload_n 3, 1) := by decide +kernel
theorem dX5_worse_35 : decode cX5_worse 35 = .ok (.i2l, 1) := by decide +kernel
theorem dX5_worse_36 : decode cX5_worse 36 = .ok (.ldc2_w 371, 3) := by decide +kernel
theorem dX5_worse_39 : decode cX5_worse 39 = .ok (.ldc2_w 373, 3) := by decide +kernel
theorem dX5_worse_42 : decode cX5_worse 42 = .ok (.invokestatic 161, 3) := by decide +kernel
theorem dX5_worse_45 : decode cX5_worse 45 = .ok (.ifCond .ne 7, 3) := by decide +kernel
theorem dX5_worse_48 : decode cX5_worse 48 = .ok (.iconst 1, 1) := by decide +kernel
theorem dX5_worse_49 : decode cX5_worse 49 = .ok (.goto 4, 3) := by decide +kernel
theorem dX5_worse_52 : decode cX5_worse 52 = .ok (.iconst 0, 1) := by decide +kernel
theorem dX5_worse_53 : decode cX5_worse 53 = .ok (.iconst 2, 1) := by decide +kernel
theorem dX5_worse_54 : decode cX5_worse 54 = .ok (.invokevirtual 215, 3) := by decide +kernel
theorem dX5_worse_57 : decode cX5_worse 57 = .ok (.ifCond .ne 21, 3) := by decide +kernel
theorem dX5_worse_60 : decode cX5_worse 60 = .ok (.aload_n 0, 1) := by decide +kernel
theorem dX5_worse_61 : decode cX5_worse 61 = .ok (.iload_n 1, 1) := by decide +kernel
theorem dX5_worse_62 : decode cX5_worse 62 = .ok (.iload_n 2, 1) := by decide +kernel
theorem dX5_worse_63 : decode cX5_worse 63 = .ok (.if_icmp .ne 7, 3) := by decide +kernel
theorem dX5_worse_66 : decode cX5_worse 66 = .ok (.iconst 1, 1) := by decide +kernel
theorem dX5_worse_67 : decode cX5_worse 67 = .ok (.goto 4, 3) := by decide +kernel
theorem dX5_worse_70 : decode cX5_worse 70 = .ok (.iconst 0, 1) := by decide +kernel
theorem dX5_worse_71 : decode cX5_worse 71 = .ok (.iconst 5, 1) := by decide +kernel
theorem dX5_worse_72 : decode cX5_worse 72 = .ok (.invokevirtual 215, 3) := by decide +kernel
theorem dX5_worse_75 : decode cX5_worse 75 = .ok (.ifCond .eq 5, 3) := by decide +kernel
theorem dX5_worse_78 : decode cX5_worse 78 = .ok (.iconst (-1), 1) := by decide +kernel
theorem dX5_worse_79 : decode cX5_worse 79 = .ok (.ireturn, 1) := by decide +kernel
theorem dX5_worse_80 : decode cX5_worse 80 = .ok (.aload_n 0, 1) := by decide +kernel
theorem dX5_worse_81 : decode cX5_worse 81 = .ok (.getfield 13, 3) := by decide +kernel
theorem dX5_worse_84 : decode cX5_worse 84 = .ok (.iload_n 1, 1) := by decide +kernel
theorem dX5_worse_85 : decode cX5_worse 85 = .ok (.iconst 1, 1) := by decide +kernel
theorem dX5_worse_86 : decode cX5_worse 86 = .ok (.invokestatic 243, 3) := by decide +kernel
theorem dX5_worse_89 : decode cX5_worse 89 = .ok (.aload_n 0, 1) := by decide +kernel
theorem dX5_worse_90 : decode cX5_worse 90 = .ok (.getfield 13, 3) := by decide +kernel
theorem dX5_worse_93 : decode cX5_worse 93 = .ok (.iload_n 2, 1) := by decide +kernel
theorem dX5_worse_94 : decode cX5_worse 94 = .ok (.iconst 1, 1) := by decide +kernel
theorem dX5_worse_95 : decode cX5_worse 95 = .ok (.invokestatic 243, 3) := by decide +kernel
theorem dX5_worse_98 : decode cX5_worse 98 = .ok (.iadd, 1) := by decide +kernel
theorem dX5_worse_99 : decode cX5_worse 99 = .ok (.istore 4, 2) := by decide +kernel
theorem dX5_worse_101 : decode cX5_worse 101 = .ok (.iconst 0, 1) := by decide +kernel
theorem dX5_worse_102 : decode cX5_worse 102 = .ok (.istore 5, 2) := by decide +kernel
theorem dX5_worse_104 : decode cX5_worse 104 = .ok (.iload 5, 2) := by decide +kernel
theorem dX5_worse_106 : decode cX5_worse 106 = .ok (.iload 4, 2) := by decide +kernel
theorem dX5_worse_108 : decode cX5_worse 108 = .ok (.if_icmp .gt 26, 3) := by decide +kernel
theorem dX5_worse_111 : decode cX5_worse 111 = .ok (.aload_n 0, 1) := by decide +kernel
theorem dX5_worse_112 : decode cX5_worse 112 = .ok (.iload_n 1, 1) := by decide +kernel
theorem dX5_worse_113 : decode cX5_worse 113 = .ok (.iload_n 2, 1) := by decide +kernel
theorem dX5_worse_114 : decode cX5_worse 114 = .ok (.iload 5, 2) := by decide +kernel
theorem dX5_worse_116 : decode cX5_worse 116 = .ok (.invokevirtual 367, 3) := by decide +kernel
theorem dX5_worse_119 : decode cX5_worse 119 = .ok (.iload_n 3, 1) := by decide +kernel
theorem dX5_worse_120 : decode cX5_worse 120 = .ok (.i2l, 1) := by decide +kernel
theorem dX5_worse_121 : decode cX5_worse 121 = .ok (.lcmp, 1) := by decide +kernel
theorem dX5_worse_122 : decode cX5_worse 122 = .ok (.ifCond .ge 6, 3) := by decide +kernel
theorem dX5_worse_125 : decode cX5_worse 125 = .ok (.iload 5, 2) := by decide +kernel
theorem dX5_worse_127 : decode cX5_worse 127 = .ok (.ireturn, 1) := by decide +kernel
theorem dX5_worse_128 : decode cX5_worse 128 = .ok (.iinc 5 1, 3) := by decide +kernel
theorem dX5_worse_131 : decode cX5_worse 131 = .ok (.goto (-27), 3) := by decide +kernel
theorem dX5_worse_134 : decode cX5_worse 134 = .ok (.bipush (-2), 2) := by decide +kernel
theorem dX5_worse_136 : decode cX5_worse 136 = .ok (.ireturn, 1) := by decide +kernel
theorem dX5_draw_0 : decode cX5_draw 0 = .ok (.aload_n 0, 1) := by decide +kernel
theorem dX5_draw_1 : decode cX5_draw 1 = .ok (.aload_n 0, 1) := by decide +kernel
theorem dX5_draw_2 : decode cX5_draw 2 = .ok (.getfield 375, 3) := by decide +kernel
theorem dX5_draw_5 : decode cX5_draw 5 = .ok (.ldc2_w 378, 3) := by decide +kernel
theorem dX5_draw_8 : decode cX5_draw 8 = .ok (.lmul, 1) := by decide +kernel
theorem dX5_draw_9 : decode cX5_draw 9 = .ok (.ldc2_w 380, 3) := by decide +kernel
theorem dX5_draw_12 : decode cX5_draw 12 = .ok (.lrem, 1) := by decide +kernel
theorem dX5_draw_13 : decode cX5_draw 13 = .ok (.putfield 375, 3) := by decide +kernel
theorem dX5_draw_16 : decode cX5_draw 16 = .ok (.aload_n 0, 1) := by decide +kernel
theorem dX5_draw_17 : decode cX5_draw 17 = .ok (.getfield 375, 3) := by decide +kernel
theorem dX5_draw_20 : decode cX5_draw 20 = .ok (.iload_n 1, 1) := by decide +kernel
theorem dX5_draw_21 : decode cX5_draw 21 = .ok (.i2l, 1) := by decide +kernel
theorem dX5_draw_22 : decode cX5_draw 22 = .ok (.lrem, 1) := by decide +kernel
theorem dX5_draw_23 : decode cX5_draw 23 = .ok (.l2i, 1) := by decide +kernel
theorem dX5_draw_24 : decode cX5_draw 24 = .ok (.ireturn, 1) := by decide +kernel
theorem dX5_netJudged_0 : decode cX5_netJudged 0 = .ok (.aload_n 0, 1) := by decide +kernel
theorem dX5_netJudged_1 : decode cX5_netJudged 1 = .ok (.invokevirtual 318, 3) := by decide +kernel
theorem dX5_netJudged_4 : decode cX5_netJudged 4 = .ok (.iconst 0, 1) := by decide +kernel
theorem dX5_netJudged_5 : decode cX5_netJudged 5 = .ok (.istore_n 2, 1) := by decide +kernel
theorem dX5_netJudged_6 : decode cX5_netJudged 6 = .ok (.iload_n 2, 1) := by decide +kernel
theorem dX5_netJudged_7 : decode cX5_netJudged 7 = .ok (.aload_n 0, 1) := by decide +kernel
theorem dX5_netJudged_8 : decode cX5_netJudged 8 = .ok (.getfield 17, 3) := by decide +kernel
theorem dX5_netJudged_11 : decode cX5_netJudged 11 = .ok (.iconst 0, 1) := by decide +kernel
theorem dX5_netJudged_12 : decode cX5_netJudged 12 = .ok (.iaload, 1) := by decide +kernel
theorem dX5_netJudged_13 : decode cX5_netJudged 13 = .ok (.if_icmp .ge 24, 3) := by decide +kernel
theorem dX5_netJudged_16 : decode cX5_netJudged 16 = .ok (.aload_n 0, 1) := by decide +kernel
theorem dX5_netJudged_17 : decode cX5_netJudged 17 = .ok (.getfield 17, 3) := by decide +kernel
theorem dX5_netJudged_20 : decode cX5_netJudged 20 = .ok (.bipush 10, 2) := by decide +kernel
theorem dX5_netJudged_22 : decode cX5_netJudged 22 = .ok (.bipush 6, 2) := by decide +kernel
theorem dX5_netJudged_24 : decode cX5_netJudged 24 = .ok (.iload_n 2, 1) := by decide +kernel
theorem dX5_netJudged_25 : decode cX5_netJudged 25 = .ok (.imul, 1) := by decide +kernel
theorem dX5_netJudged_26 : decode cX5_netJudged 26 = .ok (.iadd, 1) := by decide +kernel
theorem dX5_netJudged_27 : decode cX5_netJudged 27 = .ok (.iconst 1, 1) := by decide +kernel
theorem dX5_netJudged_28 : decode cX5_netJudged 28 = .ok (.iadd, 1) := by decide +kernel
theorem dX5_netJudged_29 : decode cX5_netJudged 29 = .ok (.iconst 0, 1) := by decide +kernel
theorem dX5_netJudged_30 : decode cX5_netJudged 30 = .ok (.iastore, 1) := by decide +kernel
theorem dX5_netJudged_31 : decode cX5_netJudged 31 = .ok (.iinc 2 1, 3) := by decide +kernel
theorem dX5_netJudged_34 : decode cX5_netJudged 34 = .ok (.goto (-28), 3) := by decide +kernel
theorem dX5_netJudged_37 : decode cX5_netJudged 37 = .ok (.iconst 0, 1) := by decide +kernel
theorem dX5_netJudged_38 : decode cX5_netJudged 38 = .ok (.istore_n 2, 1) := by decide +kernel
theorem dX5_netJudged_39 : decode cX5_netJudged 39 = .ok (.iload_n 2, 1) := by decide +kernel
theorem dX5_netJudged_40 : decode cX5_netJudged 40 = .ok (.bipush 10, 2) := by decide +kernel
theorem dX5_netJudged_42 : decode cX5_netJudged 42 = .ok (.if_icmp .ge 36, 3) := by decide +kernel
theorem dX5_netJudged_45 : decode cX5_netJudged 45 = .ok (.aload_n 0, 1) := by decide +kernel
theorem dX5_netJudged_46 : decode cX5_netJudged 46 = .ok (.getfield 17, 3) := by decide +kernel
theorem dX5_netJudged_49 : decode cX5_netJudged 49 = .ok (.bipush 10, 2) := by decide +kernel
theorem dX5_netJudged_51 : decode cX5_netJudged 51 = .ok (.bipush 6, 2) := by decide +kernel
theorem dX5_netJudged_53 : decode cX5_netJudged 53 = .ok (.aload_n 0, 1) := by decide +kernel
theorem dX5_netJudged_54 : decode cX5_netJudged 54 = .ok (.aload_n 0, 1) := by decide +kernel
theorem dX5_netJudged_55 : decode cX5_netJudged 55 = .ok (.getfield 17, 3) := by decide +kernel
theorem dX5_netJudged_58 : decode cX5_netJudged 58 = .ok (.iconst 0, 1) := by decide +kernel
theorem dX5_netJudged_59 : decode cX5_netJudged 59 = .ok (.iaload, 1) := by decide +kernel
theorem dX5_netJudged_60 : decode cX5_netJudged 60 = .ok (.invokevirtual 382, 3) := by decide +kernel
theorem dX5_netJudged_63 : decode cX5_netJudged 63 = .ok (.imul, 1) := by decide +kernel
theorem dX5_netJudged_64 : decode cX5_netJudged 64 = .ok (.iadd, 1) := by decide +kernel
theorem dX5_netJudged_65 : decode cX5_netJudged 65 = .ok (.iconst 1, 1) := by decide +kernel
theorem dX5_netJudged_66 : decode cX5_netJudged 66 = .ok (.iadd, 1) := by decide +kernel
theorem dX5_netJudged_67 : decode cX5_netJudged 67 = .ok (.dup2, 1) := by decide +kernel
theorem dX5_netJudged_68 : decode cX5_netJudged 68 = .ok (.iaload, 1) := by decide +kernel
theorem dX5_netJudged_69 : decode cX5_netJudged 69 = .ok (.iconst 1, 1) := by decide +kernel
theorem dX5_netJudged_70 : decode cX5_netJudged 70 = .ok (.iadd, 1) := by decide +kernel
theorem dX5_netJudged_71 : decode cX5_netJudged 71 = .ok (.iastore, 1) := by decide +kernel
theorem dX5_netJudged_72 : decode cX5_netJudged 72 = .ok (.iinc 2 1, 3) := by decide +kernel
theorem dX5_netJudged_75 : decode cX5_netJudged 75 = .ok (.goto (-36), 3) := by decide +kernel
theorem dX5_netJudged_78 : decode cX5_netJudged 78 = .ok (.aload_n 0, 1) := by decide +kernel
theorem dX5_netJudged_79 : decode cX5_netJudged 79 = .ok (.invokevirtual 321, 3) := by decide +kernel
theorem dX5_netJudged_82 : decode cX5_netJudged 82 = .ok (.aload_n 0, 1) := by decide +kernel
theorem dX5_netJudged_83 : decode cX5_netJudged 83 = .ok (.iload_n 1, 1) := by decide +kernel
theorem dX5_netJudged_84 : decode cX5_netJudged 84 = .ok (.invokevirtual 353, 3) := by decide +kernel
theorem dX5_netJudged_87 : decode cX5_netJudged 87 = .ok (.lreturn, 1) := by decide +kernel
theorem dX5_judged_0 : decode cX5_judged 0 = .ok (.aload_n 0, 1) := by decide +kernel
theorem dX5_judged_1 : decode cX5_judged 1 = .ok (.invokevirtual 212, 3) := by decide +kernel
theorem dX5_judged_4 : decode cX5_judged 4 = .ok (.aload_n 0, 1) := by decide +kernel
theorem dX5_judged_5 : decode cX5_judged 5 = .ok (.aload_n 0, 1) := by decide +kernel
theorem dX5_judged_6 : decode cX5_judged 6 = .ok (.iload_n 1, 1) := by decide +kernel
theorem dX5_judged_7 : decode cX5_judged 7 = .ok (.invokevirtual 234, 3) := by decide +kernel
theorem dX5_judged_10 : decode cX5_judged 10 = .ok (.ifCond .eq 16, 3) := by decide +kernel
theorem dX5_judged_13 : decode cX5_judged 13 = .ok (.iload 4, 2) := by decide +kernel
theorem dX5_judged_15 : decode cX5_judged 15 = .ok (.i2l, 1) := by decide +kernel
theorem dX5_judged_16 : decode cX5_judged 16 = .ok (.lconst 0, 1) := by decide +kernel
theorem dX5_judged_17 : decode cX5_judged 17 = .ok (.ldc2_w 349, 3) := by decide +kernel
theorem dX5_judged_20 : decode cX5_judged 20 = .ok (.invokestatic 161, 3) := by decide +kernel
theorem dX5_judged_23 : decode cX5_judged 23 = .ok (.ifCond .ne 7, 3) := by decide +kernel
theorem dX5_judged_26 : decode cX5_judged 26 = .ok (.iconst 1, 1) := by decide +kernel
theorem dX5_judged_27 : decode cX5_judged 27 = .ok (.goto 4, 3) := by decide +kernel
theorem dX5_judged_30 : decode cX5_judged 30 = .ok (.iconst 0, 1) := by decide +kernel
theorem dX5_judged_31 : decode cX5_judged 31 = .ok (.iconst 1, 1) := by decide +kernel
theorem dX5_judged_32 : decode cX5_judged 32 = .ok (.invokevirtual 215, 3) := by decide +kernel
theorem dX5_judged_35 : decode cX5_judged 35 = .ok (.ifCond .ne 40, 3) := by decide +kernel
theorem dX5_judged_38 : decode cX5_judged 38 = .ok (.aload_n 0, 1) := by decide +kernel
theorem dX5_judged_39 : decode cX5_judged 39 = .ok (.iload_n 2, 1) := by decide +kernel
theorem dX5_judged_40 : decode cX5_judged 40 = .ok (.i2l, 1) := by decide +kernel
theorem dX5_judged_41 : decode cX5_judged 41 = .ok (.lconst 1, 1) := by decide +kernel
theorem dX5_judged_42 : decode cX5_judged 42 = .ok (.ldc2_w 385, 3) := by decide +kernel
theorem dX5_judged_45 : decode cX5_judged 45 = .ok (.invokestatic 161, 3) := by decide +kernel
theorem dX5_judged_48 : decode cX5_judged 48 = .ok (.ifCond .eq 15, 3) := by decide +kernel
theorem dX5_judged_51 : decode cX5_judged 51 = .ok (.iload_n 3, 1) := by decide +kernel
theorem dX5_judged_52 : decode cX5_judged 52 = .ok (.i2l, 1) := by decide +kernel
theorem dX5_judged_53 : decode cX5_judged 53 = .ok (.lconst 1, 1) := by decide +kernel
theorem dX5_judged_54 : decode cX5_judged 54 = .ok (.ldc2_w 387, 3) := by decide +kernel
theorem dX5_judged_57 : decode cX5_judged 57 = .ok (.invokestatic 161, 3) := by decide +kernel
theorem dX5_judged_60 : decode cX5_judged 60 = .ok (.ifCond .ne 7, 3) := by decide +kernel
theorem dX5_judged_63 : decode cX5_judged 63 = .ok (.iconst 1, 1) := by decide +kernel
theorem dX5_judged_64 : decode cX5_judged 64 = .ok (.goto 4, 3) := by decide +kernel
theorem dX5_judged_67 : decode cX5_judged 67 = .ok (.iconst 0, 1) := by decide +kernel
theorem dX5_judged_68 : decode cX5_judged 68 = .ok (.iconst 2, 1) := by decide +kernel
theorem dX5_judged_69 : decode cX5_judged 69 = .ok (.invokevirtual 215, 3) := by decide +kernel
theorem dX5_judged_72 : decode cX5_judged 72 = .ok (.ifCond .eq 7, 3) := by decide +kernel
theorem dX5_judged_75 : decode cX5_judged 75 = .ok (.ldc2_w 351, 3) := by decide +kernel
theorem dX5_judged_78 : decode cX5_judged 78 = .ok (.lreturn, 1) := by decide +kernel
theorem dX5_judged_79 : decode cX5_judged 79 = .ok (.aload_n 0, 1) := by decide +kernel
theorem dX5_judged_80 : decode cX5_judged 80 = .ok (.iload_n 2, 1) := by decide +kernel
theorem dX5_judged_81 : decode cX5_judged 81 = .ok (.i2l, 1) := by decide +kernel
theorem dX5_judged_82 : decode cX5_judged 82 = .ok (.putfield 375, 3) := by decide +kernel
theorem dX5_judged_85 : decode cX5_judged 85 = .ok (.lconst 0, 1) := by decide +kernel
theorem dX5_judged_86 : decode cX5_judged 86 = .ok (.lstore 5, 2) := by decide +kernel
theorem dX5_judged_88 : decode cX5_judged 88 = .ok (.lconst 0, 1) := by decide +kernel
theorem dX5_judged_89 : decode cX5_judged 89 = .ok (.lstore 7, 2) := by decide +kernel
theorem dX5_judged_91 : decode cX5_judged 91 = .ok (.lconst 0, 1) := by decide +kernel
theorem dX5_judged_92 : decode cX5_judged 92 = .ok (.lstore 9, 2) := by decide +kernel
theorem dX5_judged_94 : decode cX5_judged 94 = .ok (.iconst 0, 1) := by decide +kernel
theorem dX5_judged_95 : decode cX5_judged 95 = .ok (.istore 11, 2) := by decide +kernel
theorem dX5_judged_97 : decode cX5_judged 97 = .ok (.iload 11, 2) := by decide +kernel
theorem dX5_judged_99 : decode cX5_judged 99 = .ok (.iload_n 3, 1) := by decide +kernel
theorem dX5_judged_100 : decode cX5_judged 100 = .ok (.if_icmp .ge 61, 3) := by decide +kernel
theorem dX5_judged_103 : decode cX5_judged 103 = .ok (.aload_n 0, 1) := by decide +kernel
theorem dX5_judged_104 : decode cX5_judged 104 = .ok (.iload_n 1, 1) := by decide +kernel
theorem dX5_judged_105 : decode cX5_judged 105 = .ok (.invokevirtual 389, 3) := by decide +kernel
theorem dX5_judged_108 : decode cX5_judged 108 = .ok (.lstore 12, 2) := by decide +kernel
theorem dX5_judged_110 : decode cX5_judged 110 = .ok (.lload 5, 2) := by decide +kernel
theorem dX5_judged_112 : decode cX5_judged 112 = .ok (.lload 12, 2) := by decide +kernel
theorem dX5_judged_114 : decode cX5_judged 114 = .ok (.ladd, 1) := by decide +kernel
theorem dX5_judged_115 : decode cX5_judged 115 = .ok (.lstore 5, 2) := by decide +kernel
theorem dX5_judged_117 : decode cX5_judged 117 = .ok (.iload 11, 2) := by decide +kernel
theorem dX5_judged_119 : decode cX5_judged 119 = .ok (.ifCond .ne 8, 3) := by decide +kernel
theorem dX5_judged_122 : decode cX5_judged 122 = .ok (.lload 12, 2) := by decide +kernel
theorem dX5_judged_124 : decode cX5_judged 124 = .ok (.goto 10, 3) := by decide +kernel
theorem dX5_judged_127 : decode cX5_judged 127 = .ok (.lload 7, 2) := by decide +kernel
theorem dX5_judged_129 : decode cX5_judged 129 = .ok (.lload 12, 2) := by decide +kernel
theorem dX5_judged_131 : decode cX5_judged 131 = .ok (.invokestatic 282, 3) := by decide +kernel
theorem dX5_judged_134 : decode cX5_judged 134 = .ok (.lstore 7, 2) := by decide +kernel
theorem dX5_judged_136 : decode cX5_judged 136 = .ok (.iload 11, 2) := by decide +kernel
theorem dX5_judged_138 : decode cX5_judged 138 = .ok (.ifCond .ne 8, 3) := by decide +kernel
theorem dX5_judged_141 : decode cX5_judged 141 = .ok (.lload 12, 2) := by decide +kernel
theorem dX5_judged_143 : decode cX5_judged 143 = .ok (.goto 10, 3) := by decide +kernel
theorem dX5_judged_146 : decode cX5_judged 146 = .ok (.lload 9, 2) := by decide +kernel
theorem dX5_judged_148 : decode cX5_judged 148 = .ok (.lload 12, 2) := by decide +kernel
theorem dX5_judged_150 : decode cX5_judged 150 = .ok (.invokestatic 286, 3) := by decide +kernel
theorem dX5_judged_153 : decode cX5_judged 153 = .ok (.lstore 9, 2) := by decide +kernel
theorem dX5_judged_155 : decode cX5_judged 155 = .ok (.iinc 11 1, 3) := by decide +kernel
theorem dX5_judged_158 : decode cX5_judged 158 = .ok (.goto (-61), 3) := by decide +kernel
theorem dX5_judged_161 : decode cX5_judged 161 = .ok (.iload 4, 2) := by decide +kernel
theorem dX5_judged_163 : decode cX5_judged 163 = .ok (.ifCond .ne 8, 3) := by decide +kernel
theorem dX5_judged_166 : decode cX5_judged 166 = .ok (.lload 5, 2) := by decide +kernel
theorem dX5_judged_168 : decode cX5_judged 168 = .ok (.goto 16, 3) := by decide +kernel
theorem dX5_judged_171 : decode cX5_judged 171 = .ok (.iload 4, 2) := by decide +kernel
theorem dX5_judged_173 : decode cX5_judged 173 = .ok (.iconst 1, 1) := by decide +kernel
theorem dX5_judged_174 : decode cX5_judged 174 = .ok (.if_icmp .ne 8, 3) := by decide +kernel
theorem dX5_judged_177 : decode cX5_judged 177 = .ok (.lload 7, 2) := by decide +kernel
theorem dX5_judged_179 : decode cX5_judged 179 = .ok (.goto 5, 3) := by decide +kernel
theorem dX5_judged_182 : decode cX5_judged 182 = .ok (.lload 9, 2) := by decide +kernel
theorem dX5_judged_184 : decode cX5_judged 184 = .ok (.lreturn, 1) := by decide +kernel
theorem dX5_all_0 : decode cX5_all 0 = .ok (.aload_n 0, 1) := by decide +kernel
theorem dX5_all_1 : decode cX5_all 1 = .ok (.invokevirtual 212, 3) := by decide +kernel
theorem dX5_all_4 : decode cX5_all 4 = .ok (.aload_n 0, 1) := by decide +kernel
theorem dX5_all_5 : decode cX5_all 5 = .ok (.aload_n 0, 1) := by decide +kernel
theorem dX5_all_6 : decode cX5_all 6 = .ok (.getfield 225, 3) := by decide +kernel
theorem dX5_all_9 : decode cX5_all 9 = .ok (.ifCond .ne 7, 3) := by decide +kernel
theorem dX5_all_12 : decode cX5_all 12 = .ok (.iconst 1, 1) := by decide +kernel
theorem dX5_all_13 : decode cX5_all 13 = .ok (.goto 4, 3) := by decide +kernel
theorem dX5_all_16 : decode cX5_all 16 = .ok (.iconst 0, 1) := by decide +kernel
theorem dX5_all_17 : decode cX5_all 17 = .ok (.iconst 1, 1) := by decide +kernel
theorem dX5_all_18 : decode cX5_all 18 = .ok (.invokevirtual 215, 3) := by decide +kernel
theorem dX5_all_21 : decode cX5_all 21 = .ok (.ifCond .eq 7, 3) := by decide +kernel
theorem dX5_all_24 : decode cX5_all 24 = .ok (.ldc2_w 351, 3) := by decide +kernel
theorem dX5_all_27 : decode cX5_all 27 = .ok (.lreturn, 1) := by decide +kernel
theorem dX5_all_28 : decode cX5_all 28 = .ok (.aload_n 0, 1) := by decide +kernel
theorem dX5_all_29 : decode cX5_all 29 = .ok (.invokevirtual 343, 3) := by decide +kernel
theorem dX5_all_32 : decode cX5_all 32 = .ok (.lconst 0, 1) := by decide +kernel
theorem dX5_all_33 : decode cX5_all 33 = .ok (.lstore_n 1, 1) := by decide +kernel
theorem dX5_all_34 : decode cX5_all 34 = .ok (.iconst 0, 1) := by decide +kernel
theorem dX5_all_35 : decode cX5_all 35 = .ok (.istore_n 3, 1) := by decide +kernel
theorem dX5_all_36 : decode cX5_all 36 = .ok (.iload_n 3, 1) := by decide +kernel
theorem dX5_all_37 : decode cX5_all 37 = .ok (.aload_n 0, 1) := by decide +kernel
theorem dX5_all_38 : decode cX5_all 38 = .ok (.getfield 17, 3) := by decide +kernel
theorem dX5_all_41 : decode cX5_all 41 = .ok (.iconst 0, 1) := by decide +kernel
theorem dX5_all_42 : decode cX5_all 42 = .ok (.iaload, 1) := by decide +kernel
theorem dX5_all_43 : decode cX5_all 43 = .ok (.if_icmp .ge 17, 3) := by decide +kernel
theorem dX5_all_46 : decode cX5_all 46 = .ok (.lload_n 1, 1) := by decide +kernel
theorem dX5_all_47 : decode cX5_all 47 = .ok (.aload_n 0, 1) := by decide +kernel
theorem dX5_all_48 : decode cX5_all 48 = .ok (.iload_n 3, 1) := by decide +kernel
theorem dX5_all_49 : decode cX5_all 49 = .ok (.invokevirtual 353, 3) := by decide +kernel
theorem dX5_all_52 : decode cX5_all 52 = .ok (.ladd, 1) := by decide +kernel
theorem dX5_all_53 : decode cX5_all 53 = .ok (.lstore_n 1, 1) := by decide +kernel
theorem dX5_all_54 : decode cX5_all 54 = .ok (.iinc 3 1, 3) := by decide +kernel
theorem dX5_all_57 : decode cX5_all 57 = .ok (.goto (-21), 3) := by decide +kernel
theorem dX5_all_60 : decode cX5_all 60 = .ok (.iconst 0, 1) := by decide +kernel
theorem dX5_all_61 : decode cX5_all 61 = .ok (.istore_n 3, 1) := by decide +kernel
theorem dX5_all_62 : decode cX5_all 62 = .ok (.iload_n 3, 1) := by decide +kernel
theorem dX5_all_63 : decode cX5_all 63 = .ok (.aload_n 0, 1) := by decide +kernel
theorem dX5_all_64 : decode cX5_all 64 = .ok (.getfield 17, 3) := by decide +kernel
theorem dX5_all_67 : decode cX5_all 67 = .ok (.iconst 1, 1) := by decide +kernel
theorem dX5_all_68 : decode cX5_all 68 = .ok (.iaload, 1) := by decide +kernel
theorem dX5_all_69 : decode cX5_all 69 = .ok (.if_icmp .ge 23, 3) := by decide +kernel
theorem dX5_all_72 : decode cX5_all 72 = .ok (.lload_n 1, 1) := by decide +kernel
theorem dX5_all_73 : decode cX5_all 73 = .ok (.aload_n 0, 1) := by decide +kernel
theorem dX5_all_74 : decode cX5_all 74 = .ok (.iload_n 3, 1) := by decide +kernel
theorem dX5_all_75 : decode cX5_all 75 = .ok (.invokevirtual 328, 3) := by decide +kernel
theorem dX5_all_78 : decode cX5_all 78 = .ok (.aload_n 0, 1) := by decide +kernel
theorem dX5_all_79 : decode cX5_all 79 = .ok (.iload_n 3, 1) := by decide +kernel
theorem dX5_all_80 : decode cX5_all 80 = .ok (.invokevirtual 334, 3) := by decide +kernel
theorem dX5_all_83 : decode cX5_all 83 = .ok (.lsub, 1) := by decide +kernel
theorem dX5_all_84 : decode cX5_all 84 = .ok (.ladd, 1) := by decide +kernel
theorem dX5_all_85 : decode cX5_all 85 = .ok (.lstore_n 1, 1) := by decide +kernel
theorem dX5_all_86 : decode cX5_all 86 = .ok (.iinc 3 1, 3) := by decide +kernel
theorem dX5_all_89 : decode cX5_all 89 = .ok (.goto (-27), 3) := by decide +kernel
theorem dX5_all_92 : decode cX5_all 92 = .ok (.lload_n 1, 1) := by decide +kernel
theorem dX5_all_93 : decode cX5_all 93 = .ok (.lreturn, 1) := by decide +kernel
theorem dX5_keeps_0 : decode cX5_keeps 0 = .ok (.aload_n 0, 1) := by decide +kernel
theorem dX5_keeps_1 : decode cX5_keeps 1 = .ok (.getfield 229, 3) := by decide +kernel
theorem dX5_keeps_4 : decode cX5_keeps 4 = .ok (.bipush 10, 2) := by decide +kernel
theorem dX5_keeps_6 : decode cX5_keeps 6 = .ok (.if_icmp .ne 43, 3) := by decide +kernel
theorem dX5_keeps_9 : decode cX5_keeps 9 = .ok (.iconst 0, 1) := by decide +kernel
theorem dX5_keeps_10 : decode cX5_keeps 10 = .ok (.istore_n 1, 1) := by decide +kernel
theorem dX5_keeps_11 : decode cX5_keeps 11 = .ok (.iload_n 1, 1) := by decide +kernel
theorem dX5_keeps_12 : decode cX5_keeps 12 = .ok (.sipush 738, 3) := by decide +kernel
theorem dX5_keeps_15 : decode cX5_keeps 15 = .ok (.if_icmp .ge 24, 3) := by decide +kernel
theorem dX5_keeps_18 : decode cX5_keeps 18 = .ok (.aload_n 0, 1) := by decide +kernel
theorem dX5_keeps_19 : decode cX5_keeps 19 = .ok (.getfield 23, 3) := by decide +kernel
theorem dX5_keeps_22 : decode cX5_keeps 22 = .ok (.iload_n 1, 1) := by decide +kernel
theorem dX5_keeps_23 : decode cX5_keeps 23 = .ok (.aload_n 0, 1) := by decide +kernel
theorem dX5_keeps_24 : decode cX5_keeps 24 = .ok (.getfield 23, 3) := by decide +kernel
theorem dX5_keeps_27 : decode cX5_keeps 27 = .ok (.iload_n 1, 1) := by decide +kernel
theorem dX5_keeps_28 : decode cX5_keeps 28 = .ok (.bipush 82, 2) := by decide +kernel
theorem dX5_keeps_30 : decode cX5_keeps 30 = .ok (.iadd, 1) := by decide +kernel
theorem dX5_keeps_31 : decode cX5_keeps 31 = .ok (.iaload, 1) := by decide +kernel
theorem dX5_keeps_32 : decode cX5_keeps 32 = .ok (.iastore, 1) := by decide +kernel
theorem dX5_keeps_33 : decode cX5_keeps 33 = .ok (.iinc 1 1, 3) := by decide +kernel
theorem dX5_keeps_36 : decode cX5_keeps 36 = .ok (.goto (-25), 3) := by decide +kernel
theorem dX5_keeps_39 : decode cX5_keeps 39 = .ok (.aload_n 0, 1) := by decide +kernel
theorem dX5_keeps_40 : decode cX5_keeps 40 = .ok (.dup, 1) := by decide +kernel
theorem dX5_keeps_41 : decode cX5_keeps 41 = .ok (.getfield 229, 3) := by decide +kernel
theorem dX5_keeps_44 : decode cX5_keeps 44 = .ok (.iconst 1, 1) := by decide +kernel
theorem dX5_keeps_45 : decode cX5_keeps 45 = .ok (.isub, 1) := by decide +kernel
theorem dX5_keeps_46 : decode cX5_keeps 46 = .ok (.putfield 229, 3) := by decide +kernel
theorem dX5_keeps_49 : decode cX5_keeps 49 = .ok (.iconst 0, 1) := by decide +kernel
theorem dX5_keeps_50 : decode cX5_keeps 50 = .ok (.istore_n 1, 1) := by decide +kernel
theorem dX5_keeps_51 : decode cX5_keeps 51 = .ok (.iload_n 1, 1) := by decide +kernel
theorem dX5_keeps_52 : decode cX5_keeps 52 = .ok (.bipush 82, 2) := by decide +kernel
theorem dX5_keeps_54 : decode cX5_keeps 54 = .ok (.if_icmp .ge 29, 3) := by decide +kernel
theorem dX5_keeps_57 : decode cX5_keeps 57 = .ok (.aload_n 0, 1) := by decide +kernel
theorem dX5_keeps_58 : decode cX5_keeps 58 = .ok (.getfield 23, 3) := by decide +kernel
theorem dX5_keeps_61 : decode cX5_keeps 61 = .ok (.bipush 82, 2) := by decide +kernel
theorem dX5_keeps_63 : decode cX5_keeps 63 = .ok (.aload_n 0, 1) := by decide +kernel
theorem dX5_keeps_64 : decode cX5_keeps 64 = .ok (.getfield 229, 3) := by decide +kernel
theorem dX5_keeps_67 : decode cX5_keeps 67 = .ok (.imul, 1) := by decide +kernel
theorem dX5_keeps_68 : decode cX5_keeps 68 = .ok (.iload_n 1, 1) := by decide +kernel
theorem dX5_keeps_69 : decode cX5_keeps 69 = .ok (.iadd, 1) := by decide +kernel
theorem dX5_keeps_70 : decode cX5_keeps 70 = .ok (.aload_n 0, 1) := by decide +kernel
theorem dX5_keeps_71 : decode cX5_keeps 71 = .ok (.getfield 13, 3) := by decide +kernel
theorem dX5_keeps_74 : decode cX5_keeps 74 = .ok (.iload_n 1, 1) := by decide +kernel
theorem dX5_keeps_75 : decode cX5_keeps 75 = .ok (.iaload, 1) := by decide +kernel
theorem dX5_keeps_76 : decode cX5_keeps 76 = .ok (.iastore, 1) := by decide +kernel
theorem dX5_keeps_77 : decode cX5_keeps 77 = .ok (.iinc 1 1, 3) := by decide +kernel
theorem dX5_keeps_80 : decode cX5_keeps 80 = .ok (.goto (-29), 3) := by decide +kernel
theorem dX5_keeps_83 : decode cX5_keeps 83 = .ok (.aload_n 0, 1) := by decide +kernel
theorem dX5_keeps_84 : decode cX5_keeps 84 = .ok (.dup, 1) := by decide +kernel
theorem dX5_keeps_85 : decode cX5_keeps 85 = .ok (.getfield 229, 3) := by decide +kernel
theorem dX5_keeps_88 : decode cX5_keeps 88 = .ok (.iconst 1, 1) := by decide +kernel
theorem dX5_keeps_89 : decode cX5_keeps 89 = .ok (.iadd, 1) := by decide +kernel
theorem dX5_keeps_90 : decode cX5_keeps 90 = .ok (.putfield 229, 3) := by decide +kernel
theorem dX5_keeps_93 : decode cX5_keeps 93 = .ok (.return_, 1) := by decide +kernel
theorem dX5_shift_0 : decode cX5_shift 0 = .ok (.aload_n 0, 1) := by decide +kernel
theorem dX5_shift_1 : decode cX5_shift 1 = .ok (.invokevirtual 212, 3) := by decide +kernel
theorem dX5_shift_4 : decode cX5_shift 4 = .ok (.aload_n 0, 1) := by decide +kernel
theorem dX5_shift_5 : decode cX5_shift 5 = .ok (.aload_n 0, 1) := by decide +kernel
theorem dX5_shift_6 : decode cX5_shift 6 = .ok (.iload_n 1, 1) := by decide +kernel
theorem dX5_shift_7 : decode cX5_shift 7 = .ok (.invokevirtual 234, 3) := by decide +kernel
theorem dX5_shift_10 : decode cX5_shift 10 = .ok (.ifCond .eq 11, 3) := by decide +kernel
theorem dX5_shift_13 : decode cX5_shift 13 = .ok (.aload_n 0, 1) := by decide +kernel
theorem dX5_shift_14 : decode cX5_shift 14 = .ok (.iload_n 2, 1) := by decide +kernel
theorem dX5_shift_15 : decode cX5_shift 15 = .ok (.invokevirtual 234, 3) := by decide +kernel
theorem dX5_shift_18 : decode cX5_shift 18 = .ok (.ifCond .ne 7, 3) := by decide +kernel
theorem dX5_shift_21 : decode cX5_shift 21 = .ok (.iconst 1, 1) := by decide +kernel
theorem dX5_shift_22 : decode cX5_shift 22 = .ok (.goto 4, 3) := by decide +kernel
theorem dX5_shift_25 : decode cX5_shift 25 = .ok (.iconst 0, 1) := by decide +kernel
theorem dX5_shift_26 : decode cX5_shift 26 = .ok (.iconst 1, 1) := by decide +kernel
theorem dX5_shift_27 : decode cX5_shift 27 = .ok (.invokevirtual 215, 3) := by decide +kernel
theorem dX5_shift_30 : decode cX5_shift 30 = .ok (.ifCond .ne 59, 3) := by decide +kernel
theorem dX5_shift_33 : decode cX5_shift 33 = .ok (.aload_n 0, 1) := by decide +kernel
theorem dX5_shift_34 : decode cX5_shift 34 = .ok (.iload_n 3, 1) := by decide +kernel
theorem dX5_shift_35 : decode cX5_shift 35 = .ok (.i2l, 1) := by decide +kernel
theorem dX5_shift_36 : decode cX5_shift 36 = .ok (.lconst 1, 1) := by decide +kernel
theorem dX5_shift_37 : decode cX5_shift 37 = .ok (.ldc2_w 232, 3) := by decide +kernel
theorem dX5_shift_40 : decode cX5_shift 40 = .ok (.invokestatic 161, 3) := by decide +kernel
theorem dX5_shift_43 : decode cX5_shift 43 = .ok (.ifCond .ne 7, 3) := by decide +kernel
theorem dX5_shift_46 : decode cX5_shift 46 = .ok (.iconst 1, 1) := by decide +kernel
theorem dX5_shift_47 : decode cX5_shift 47 = .ok (.goto 4, 3) := by decide +kernel
theorem dX5_shift_50 : decode cX5_shift 50 = .ok (.iconst 0, 1) := by decide +kernel
theorem dX5_shift_51 : decode cX5_shift 51 = .ok (.iconst 2, 1) := by decide +kernel
theorem dX5_shift_52 : decode cX5_shift 52 = .ok (.invokevirtual 215, 3) := by decide +kernel
theorem dX5_shift_55 : decode cX5_shift 55 = .ok (.ifCond .ne 34, 3) := by decide +kernel
theorem dX5_shift_58 : decode cX5_shift 58 = .ok (.aload_n 0, 1) := by decide +kernel
theorem dX5_shift_59 : decode cX5_shift 59 = .ok (.iload_n 1, 1) := by decide +kernel
theorem dX5_shift_60 : decode cX5_shift 60 = .ok (.iload_n 2, 1) := by decide +kernel
theorem dX5_shift_61 : decode cX5_shift 61 = .ok (.if_icmp .eq 16, 3) := by decide +kernel
theorem dX5_shift_64 : decode cX5_shift 64 = .ok (.aload_n 0, 1) := by decide +kernel
theorem dX5_shift_65 : decode cX5_shift 65 = .ok (.getfield 13, 3) := by decide +kernel
theorem dX5_shift_68 : decode cX5_shift 68 = .ok (.iload_n 1, 1) := by decide +kernel
theorem dX5_shift_69 : decode cX5_shift 69 = .ok (.iconst 1, 1) := by decide +kernel
theorem dX5_shift_70 : decode cX5_shift 70 = .ok (.invokestatic 243, 3) := by decide +kernel
theorem dX5_shift_73 : decode cX5_shift 73 = .ok (.iload_n 3, 1) := by decide +kernel
theorem dX5_shift_74 : decode cX5_shift 74 = .ok (.if_icmp .ge 7, 3) := by decide +kernel
theorem dX5_shift_77 : decode cX5_shift 77 = .ok (.iconst 1, 1) := by decide +kernel
theorem dX5_shift_78 : decode cX5_shift 78 = .ok (.goto 4, 3) := by decide +kernel
theorem dX5_shift_81 : decode cX5_shift 81 = .ok (.iconst 0, 1) := by decide +kernel
theorem dX5_shift_82 : decode cX5_shift 82 = .ok (.iconst 5, 1) := by decide +kernel
theorem dX5_shift_83 : decode cX5_shift 83 = .ok (.invokevirtual 215, 3) := by decide +kernel
theorem dX5_shift_86 : decode cX5_shift 86 = .ok (.ifCond .eq 5, 3) := by decide +kernel
theorem dX5_shift_89 : decode cX5_shift 89 = .ok (.iconst (-1), 1) := by decide +kernel
theorem dX5_shift_90 : decode cX5_shift 90 = .ok (.ireturn, 1) := by decide +kernel
theorem dX5_shift_91 : decode cX5_shift 91 = .ok (.aload_n 0, 1) := by decide +kernel
theorem dX5_shift_92 : decode cX5_shift 92 = .ok (.invokevirtual 392, 3) := by decide +kernel
theorem dX5_shift_95 : decode cX5_shift 95 = .ok (.aload_n 0, 1) := by decide +kernel
theorem dX5_shift_96 : decode cX5_shift 96 = .ok (.getfield 13, 3) := by decide +kernel
theorem dX5_shift_99 : decode cX5_shift 99 = .ok (.bipush 10, 2) := by decide +kernel
theorem dX5_shift_101 : decode cX5_shift 101 = .ok (.bipush 6, 2) := by decide +kernel
theorem dX5_shift_103 : decode cX5_shift 103 = .ok (.iload_n 1, 1) := by decide +kernel
theorem dX5_shift_104 : decode cX5_shift 104 = .ok (.imul, 1) := by decide +kernel
theorem dX5_shift_105 : decode cX5_shift 105 = .ok (.iadd, 1) := by decide +kernel
theorem dX5_shift_106 : decode cX5_shift 106 = .ok (.iconst 1, 1) := by decide +kernel
theorem dX5_shift_107 : decode cX5_shift 107 = .ok (.iadd, 1) := by decide +kernel
theorem dX5_shift_108 : decode cX5_shift 108 = .ok (.dup2, 1) := by decide +kernel
theorem dX5_shift_109 : decode cX5_shift 109 = .ok (.iaload, 1) := by decide +kernel
theorem dX5_shift_110 : decode cX5_shift 110 = .ok (.iload_n 3, 1) := by decide +kernel
theorem dX5_shift_111 : decode cX5_shift 111 = .ok (.isub, 1) := by decide +kernel
theorem dX5_shift_112 : decode cX5_shift 112 = .ok (.iastore, 1) := by decide +kernel
theorem dX5_shift_113 : decode cX5_shift 113 = .ok (.aload_n 0, 1) := by decide +kernel
theorem dX5_shift_114 : decode cX5_shift 114 = .ok (.getfield 13, 3) := by decide +kernel
theorem dX5_shift_117 : decode cX5_shift 117 = .ok (.bipush 10, 2) := by decide +kernel
theorem dX5_shift_119 : decode cX5_shift 119 = .ok (.bipush 6, 2) := by decide +kernel
theorem dX5_shift_121 : decode cX5_shift 121 = .ok (.iload_n 2, 1) := by decide +kernel
theorem dX5_shift_122 : decode cX5_shift 122 = .ok (.imul, 1) := by decide +kernel
theorem dX5_shift_123 : decode cX5_shift 123 = .ok (.iadd, 1) := by decide +kernel
theorem dX5_shift_124 : decode cX5_shift 124 = .ok (.iconst 1, 1) := by decide +kernel
theorem dX5_shift_125 : decode cX5_shift 125 = .ok (.iadd, 1) := by decide +kernel
theorem dX5_shift_126 : decode cX5_shift 126 = .ok (.dup2, 1) := by decide +kernel
theorem dX5_shift_127 : decode cX5_shift 127 = .ok (.iaload, 1) := by decide +kernel
theorem dX5_shift_128 : decode cX5_shift 128 = .ok (.iload_n 3, 1) := by decide +kernel
theorem dX5_shift_129 : decode cX5_shift 129 = .ok (.iadd, 1) := by decide +kernel
theorem dX5_shift_130 : decode cX5_shift 130 = .ok (.iastore, 1) := by decide +kernel
theorem dX5_shift_131 : decode cX5_shift 131 = .ok (.aload_n 0, 1) := by decide +kernel
theorem dX5_shift_132 : decode cX5_shift 132 = .ok (.getfield 13, 3) := by decide +kernel
theorem dX5_shift_135 : decode cX5_shift 135 = .ok (.iload_n 2, 1) := by decide +kernel
theorem dX5_shift_136 : decode cX5_shift 136 = .ok (.iconst 1, 1) := by decide +kernel
theorem dX5_shift_137 : decode cX5_shift 137 = .ok (.invokestatic 243, 3) := by decide +kernel
theorem dX5_shift_140 : decode cX5_shift 140 = .ok (.ireturn, 1) := by decide +kernel
theorem dX5_file_0 : decode cX5_file 0 = .ok (.aload_n 0, 1) := by decide +kernel
theorem dX5_file_1 : decode cX5_file 1 = .ok (.invokevirtual 212, 3) := by decide +kernel
theorem dX5_file_4 : decode cX5_file 4 = .ok (.aload_n 0, 1) := by decide +kernel
theorem dX5_file_5 : decode cX5_file 5 = .ok (.aload_n 0, 1) := by decide +kernel
theorem dX5_file_6 : decode cX5_file 6 = .ok (.getfield 225, 3) := by decide +kernel
theorem dX5_file_9 : decode cX5_file 9 = .ok (.ifCond .eq 27, 3) := by decide +kernel
theorem dX5_file_12 : decode cX5_file 12 = .ok (.iload_n 1, 1) := by decide +kernel
theorem dX5_file_13 : decode cX5_file 13 = .ok (.i2l, 1) := by decide +kernel
theorem dX5_file_14 : decode cX5_file 14 = .ok (.lconst 0, 1) := by decide +kernel
theorem dX5_file_15 : decode cX5_file 15 = .ok (.ldc2_w 349, 3) := by decide +kernel
theorem dX5_file_18 : decode cX5_file 18 = .ok (.invokestatic 161, 3) := by decide +kernel
theorem dX5_file_21 : decode cX5_file 21 = .ok (.ifCond .eq 15, 3) := by decide +kernel
theorem dX5_file_24 : decode cX5_file 24 = .ok (.iload_n 1, 1) := by decide +kernel
theorem dX5_file_25 : decode cX5_file 25 = .ok (.ifCond .ne 15, 3) := by decide +kernel
theorem dX5_file_28 : decode cX5_file 28 = .ok (.aload_n 0, 1) := by decide +kernel
theorem dX5_file_29 : decode cX5_file 29 = .ok (.iload_n 2, 1) := by decide +kernel
theorem dX5_file_30 : decode cX5_file 30 = .ok (.invokevirtual 234, 3) := by decide +kernel
theorem dX5_file_33 : decode cX5_file 33 = .ok (.ifCond .ne 7, 3) := by decide +kernel
theorem dX5_file_36 : decode cX5_file 36 = .ok (.iconst 1, 1) := by decide +kernel
theorem dX5_file_37 : decode cX5_file 37 = .ok (.goto 4, 3) := by decide +kernel
theorem dX5_file_40 : decode cX5_file 40 = .ok (.iconst 0, 1) := by decide +kernel
theorem dX5_file_41 : decode cX5_file 41 = .ok (.iconst 1, 1) := by decide +kernel
theorem dX5_file_42 : decode cX5_file 42 = .ok (.invokevirtual 215, 3) := by decide +kernel
theorem dX5_file_45 : decode cX5_file 45 = .ok (.ifCond .eq 5, 3) := by decide +kernel
theorem dX5_file_48 : decode cX5_file 48 = .ok (.iconst (-1), 1) := by decide +kernel
theorem dX5_file_49 : decode cX5_file 49 = .ok (.ireturn, 1) := by decide +kernel
theorem dX5_file_50 : decode cX5_file 50 = .ok (.aload_n 0, 1) := by decide +kernel
theorem dX5_file_51 : decode cX5_file 51 = .ok (.iload_n 3, 1) := by decide +kernel
theorem dX5_file_52 : decode cX5_file 52 = .ok (.i2l, 1) := by decide +kernel
theorem dX5_file_53 : decode cX5_file 53 = .ok (.lconst 1, 1) := by decide +kernel
theorem dX5_file_54 : decode cX5_file 54 = .ok (.ldc2_w 337, 3) := by decide +kernel
theorem dX5_file_57 : decode cX5_file 57 = .ok (.invokestatic 161, 3) := by decide +kernel
theorem dX5_file_60 : decode cX5_file 60 = .ok (.ifCond .eq 16, 3) := by decide +kernel
theorem dX5_file_63 : decode cX5_file 63 = .ok (.iload 4, 2) := by decide +kernel
theorem dX5_file_65 : decode cX5_file 65 = .ok (.i2l, 1) := by decide +kernel
theorem dX5_file_66 : decode cX5_file 66 = .ok (.lconst 0, 1) := by decide +kernel
theorem dX5_file_67 : decode cX5_file 67 = .ok (.ldc2_w 395, 3) := by decide +kernel
theorem dX5_file_70 : decode cX5_file 70 = .ok (.invokestatic 161, 3) := by decide +kernel
theorem dX5_file_73 : decode cX5_file 73 = .ok (.ifCond .ne 7, 3) := by decide +kernel
theorem dX5_file_76 : decode cX5_file 76 = .ok (.iconst 1, 1) := by decide +kernel
theorem dX5_file_77 : decode cX5_file 77 = .ok (.goto 4, 3) := by decide +kernel
theorem dX5_file_80 : decode cX5_file 80 = .ok (.iconst 0, 1) := by decide +kernel
theorem dX5_file_81 : decode cX5_file 81 = .ok (.iconst 2, 1) := by decide +kernel
theorem dX5_file_82 : decode cX5_file 82 = .ok (.invokevirtual 215, 3) := by decide +kernel
theorem dX5_file_85 : decode cX5_file 85 = .ok (.ifCond .ne 27, 3) := by decide +kernel
theorem dX5_file_88 : decode cX5_file 88 = .ok (.aload_n 0, 1) := by decide +kernel
theorem dX5_file_89 : decode cX5_file 89 = .ok (.aload_n 0, 1) := by decide +kernel
theorem dX5_file_90 : decode cX5_file 90 = .ok (.getfield 13, 3) := by decide +kernel
theorem dX5_file_93 : decode cX5_file 93 = .ok (.iconst 1, 1) := by decide +kernel
theorem dX5_file_94 : decode cX5_file 94 = .ok (.iaload, 1) := by decide +kernel
theorem dX5_file_95 : decode cX5_file 95 = .ok (.bipush 12, 2) := by decide +kernel
theorem dX5_file_97 : decode cX5_file 97 = .ok (.if_icmp .ne 7, 3) := by decide +kernel
theorem dX5_file_100 : decode cX5_file 100 = .ok (.iconst 1, 1) := by decide +kernel
theorem dX5_file_101 : decode cX5_file 101 = .ok (.goto 4, 3) := by decide +kernel
theorem dX5_file_104 : decode cX5_file 104 = .ok (.iconst 0, 1) := by decide +kernel
theorem dX5_file_105 : decode cX5_file 105 = .ok (.iconst 3, 1) := by decide +kernel
theorem dX5_file_106 : decode cX5_file 106 = .ok (.invokevirtual 215, 3) := by decide +kernel
theorem dX5_file_109 : decode cX5_file 109 = .ok (.ifCond .eq 5, 3) := by decide +kernel
theorem dX5_file_112 : decode cX5_file 112 = .ok (.iconst (-1), 1) := by decide +kernel
theorem dX5_file_113 : decode cX5_file 113 = .ok (.ireturn, 1) := by decide +kernel
theorem dX5_file_114 : decode cX5_file 114 = .ok (.aload_n 0, 1) := by decide +kernel
theorem dX5_file_115 : decode cX5_file 115 = .ok (.invokevirtual 392, 3) := by decide +kernel
theorem dX5_file_118 : decode cX5_file 118 = .ok (.bipush 34, 2) := by decide +kernel
theorem dX5_file_120 : decode cX5_file 120 = .ok (.iconst 4, 1) := by decide +kernel
theorem dX5_file_121 : decode cX5_file 121 = .ok (.aload_n 0, 1) := by decide +kernel
theorem dX5_file_122 : decode cX5_file 122 = .ok (.getfield 13, 3) := by decide +kernel
theorem dX5_file_125 : decode cX5_file 125 = .ok (.iconst 1, 1) := by decide +kernel
theorem dX5_file_126 : decode cX5_file 126 = .ok (.iaload, 1) := by decide +kernel
theorem dX5_file_127 : decode cX5_file 127 = .ok (.imul, 1) := by decide +kernel
theorem dX5_file_128 : decode cX5_file 128 = .ok (.iadd, 1) := by decide +kernel
theorem dX5_file_129 : decode cX5_file 129 = .ok (.istore 5, 2) := by decide +kernel
theorem dX5_file_131 : decode cX5_file 131 = .ok (.aload_n 0, 1) := by decide +kernel
theorem dX5_file_132 : decode cX5_file 132 = .ok (.getfield 13, 3) := by decide +kernel
theorem dX5_file_135 : decode cX5_file 135 = .ok (.iload 5, 2) := by decide +kernel
theorem dX5_file_137 : decode cX5_file 137 = .ok (.iconst 0, 1) := by decide +kernel
theorem dX5_file_138 : decode cX5_file 138 = .ok (.iadd, 1) := by decide +kernel
theorem dX5_file_139 : decode cX5_file 139 = .ok (.iload_n 1, 1) := by decide +kernel
theorem dX5_file_140 : decode cX5_file 140 = .ok (.iastore, 1) := by decide +kernel
theorem dX5_file_141 : decode cX5_file 141 = .ok (.aload_n 0, 1) := by decide +kernel
theorem dX5_file_142 : decode cX5_file 142 = .ok (.getfield 13, 3) := by decide +kernel
theorem dX5_file_145 : decode cX5_file 145 = .ok (.iload 5, 2) := by decide +kernel
theorem dX5_file_147 : decode cX5_file 147 = .ok (.iconst 1, 1) := by decide +kernel
theorem dX5_file_148 : decode cX5_file 148 = .ok (.iadd, 1) := by decide +kernel
theorem dX5_file_149 : decode cX5_file 149 = .ok (.iload_n 1, 1) := by decide +kernel
theorem dX5_file_150 : decode cX5_file 150 = .ok (.ifCond .ne 7, 3) := by decide +kernel
theorem dX5_file_153 : decode cX5_file 153 = .ok (.iload_n 2, 1) := by decide +kernel
theorem dX5_file_154 : decode cX5_file 154 = .ok (.goto 5, 3) := by decide +kernel
theorem dX5_file_157 : decode cX5_file 157 = .ok (.bipush (-2), 2) := by decide +kernel
theorem dX5_file_159 : decode cX5_file 159 = .ok (.iastore, 1) := by decide +kernel
theorem dX5_file_160 : decode cX5_file 160 = .ok (.aload_n 0, 1) := by decide +kernel
theorem dX5_file_161 : decode cX5_file 161 = .ok (.getfield 13, 3) := by decide +kernel
theorem dX5_file_164 : decode cX5_file 164 = .ok (.iload 5, 2) := by decide +kernel
theorem dX5_file_166 : decode cX5_file 166 = .ok (.iconst 2, 1) := by decide +kernel
theorem dX5_file_167 : decode cX5_file 167 = .ok (.iadd, 1) := by decide +kernel
theorem dX5_file_168 : decode cX5_file 168 = .ok (.iload_n 3, 1) := by decide +kernel
theorem dX5_file_169 : decode cX5_file 169 = .ok (.iastore, 1) := by decide +kernel
theorem dX5_file_170 : decode cX5_file 170 = .ok (.aload_n 0, 1) := by decide +kernel
theorem dX5_file_171 : decode cX5_file 171 = .ok (.getfield 13, 3) := by decide +kernel
theorem dX5_file_174 : decode cX5_file 174 = .ok (.iload 5, 2) := by decide +kernel
theorem dX5_file_176 : decode cX5_file 176 = .ok (.iconst 3, 1) := by decide +kernel
theorem dX5_file_177 : decode cX5_file 177 = .ok (.iadd, 1) := by decide +kernel
theorem dX5_file_178 : decode cX5_file 178 = .ok (.iload 4, 2) := by decide +kernel
theorem dX5_file_180 : decode cX5_file 180 = .ok (.iastore, 1) := by decide +kernel
theorem dX5_file_181 : decode cX5_file 181 = .ok (.aload_n 0, 1) := by decide +kernel
theorem dX5_file_182 : decode cX5_file 182 = .ok (.getfield 13, 3) := by decide +kernel
theorem dX5_file_185 : decode cX5_file 185 = .ok (.iconst 1, 1) := by decide +kernel
theorem dX5_file_186 : decode cX5_file 186 = .ok (.dup2, 1) := by decide +kernel
theorem dX5_file_187 : decode cX5_file 187 = .ok (.iaload, 1) := by decide +kernel
theorem dX5_file_188 : decode cX5_file 188 = .ok (.iconst 1, 1) := by decide +kernel
theorem dX5_file_189 : decode cX5_file 189 = .ok (.iadd, 1) := by decide +kernel
theorem dX5_file_190 : decode cX5_file 190 = .ok (.iastore, 1) := by decide +kernel
theorem dX5_file_191 : decode cX5_file 191 = .ok (.aload_n 0, 1) := by decide +kernel
theorem dX5_file_192 : decode cX5_file 192 = .ok (.getfield 13, 3) := by decide +kernel
theorem dX5_file_195 : decode cX5_file 195 = .ok (.iconst 1, 1) := by decide +kernel
theorem dX5_file_196 : decode cX5_file 196 = .ok (.iaload, 1) := by decide +kernel
theorem dX5_file_197 : decode cX5_file 197 = .ok (.iconst 1, 1) := by decide +kernel
theorem dX5_file_198 : decode cX5_file 198 = .ok (.isub, 1) := by decide +kernel
theorem dX5_file_199 : decode cX5_file 199 = .ok (.ireturn, 1) := by decide +kernel
theorem dX5_withdraw_0 : decode cX5_withdraw 0 = .ok (.aload_n 0, 1) := by decide +kernel
theorem dX5_withdraw_1 : decode cX5_withdraw 1 = .ok (.invokevirtual 212, 3) := by decide +kernel
theorem dX5_withdraw_4 : decode cX5_withdraw 4 = .ok (.aload_n 0, 1) := by decide +kernel
theorem dX5_withdraw_5 : decode cX5_withdraw 5 = .ok (.aload_n 0, 1) := by decide +kernel
theorem dX5_withdraw_6 : decode cX5_withdraw 6 = .ok (.iload_n 1, 1) := by decide +kernel
theorem dX5_withdraw_7 : decode cX5_withdraw 7 = .ok (.invokevirtual 247, 3) := by decide +kernel
theorem dX5_withdraw_10 : decode cX5_withdraw 10 = .ok (.ifCond .ne 7, 3) := by decide +kernel
theorem dX5_withdraw_13 : decode cX5_withdraw 13 = .ok (.iconst 1, 1) := by decide +kernel
theorem dX5_withdraw_14 : decode cX5_withdraw 14 = .ok (.goto 4, 3) := by decide +kernel
theorem dX5_withdraw_17 : decode cX5_withdraw 17 = .ok (.iconst 0, 1) := by decide +kernel
theorem dX5_withdraw_18 : decode cX5_withdraw 18 = .ok (.iconst 1, 1) := by decide +kernel
theorem dX5_withdraw_19 : decode cX5_withdraw 19 = .ok (.invokevirtual 215, 3) := by decide +kernel
theorem dX5_withdraw_22 : decode cX5_withdraw 22 = .ok (.ifCond .eq 5, 3) := by decide +kernel
theorem dX5_withdraw_25 : decode cX5_withdraw 25 = .ok (.iconst (-1), 1) := by decide +kernel
theorem dX5_withdraw_26 : decode cX5_withdraw 26 = .ok (.ireturn, 1) := by decide +kernel
theorem dX5_withdraw_27 : decode cX5_withdraw 27 = .ok (.aload_n 0, 1) := by decide +kernel
theorem dX5_withdraw_28 : decode cX5_withdraw 28 = .ok (.invokevirtual 392, 3) := by decide +kernel
theorem dX5_withdraw_31 : decode cX5_withdraw 31 = .ok (.aload_n 0, 1) := by decide +kernel
theorem dX5_withdraw_32 : decode cX5_withdraw 32 = .ok (.getfield 13, 3) := by decide +kernel
theorem dX5_withdraw_35 : decode cX5_withdraw 35 = .ok (.iconst 1, 1) := by decide +kernel
theorem dX5_withdraw_36 : decode cX5_withdraw 36 = .ok (.dup2, 1) := by decide +kernel
theorem dX5_withdraw_37 : decode cX5_withdraw 37 = .ok (.iaload, 1) := by decide +kernel
theorem dX5_withdraw_38 : decode cX5_withdraw 38 = .ok (.iconst 1, 1) := by decide +kernel
theorem dX5_withdraw_39 : decode cX5_withdraw 39 = .ok (.isub, 1) := by decide +kernel
theorem dX5_withdraw_40 : decode cX5_withdraw 40 = .ok (.iastore, 1) := by decide +kernel
theorem dX5_withdraw_41 : decode cX5_withdraw 41 = .ok (.bipush 34, 2) := by decide +kernel
theorem dX5_withdraw_43 : decode cX5_withdraw 43 = .ok (.iconst 4, 1) := by decide +kernel
theorem dX5_withdraw_44 : decode cX5_withdraw 44 = .ok (.iload_n 1, 1) := by decide +kernel
theorem dX5_withdraw_45 : decode cX5_withdraw 45 = .ok (.imul, 1) := by decide +kernel
theorem dX5_withdraw_46 : decode cX5_withdraw 46 = .ok (.iadd, 1) := by decide +kernel
theorem dX5_withdraw_47 : decode cX5_withdraw 47 = .ok (.istore_n 2, 1) := by decide +kernel
theorem dX5_withdraw_48 : decode cX5_withdraw 48 = .ok (.iload_n 2, 1) := by decide +kernel
theorem dX5_withdraw_49 : decode cX5_withdraw 49 = .ok (.bipush 34, 2) := by decide +kernel
theorem dX5_withdraw_51 : decode cX5_withdraw 51 = .ok (.iconst 4, 1) := by decide +kernel
theorem dX5_withdraw_52 : decode cX5_withdraw 52 = .ok (.aload_n 0, 1) := by decide +kernel
theorem dX5_withdraw_53 : decode cX5_withdraw 53 = .ok (.getfield 13, 3) := by decide +kernel
theorem dX5_withdraw_56 : decode cX5_withdraw 56 = .ok (.iconst 1, 1) := by decide +kernel
theorem dX5_withdraw_57 : decode cX5_withdraw 57 = .ok (.iaload, 1) := by decide +kernel
theorem dX5_withdraw_58 : decode cX5_withdraw 58 = .ok (.imul, 1) := by decide +kernel
theorem dX5_withdraw_59 : decode cX5_withdraw 59 = .ok (.iadd, 1) := by decide +kernel
theorem dX5_withdraw_60 : decode cX5_withdraw 60 = .ok (.if_icmp .ge 23, 3) := by decide +kernel
theorem dX5_withdraw_63 : decode cX5_withdraw 63 = .ok (.aload_n 0, 1) := by decide +kernel
theorem dX5_withdraw_64 : decode cX5_withdraw 64 = .ok (.getfield 13, 3) := by decide +kernel
theorem dX5_withdraw_67 : decode cX5_withdraw 67 = .ok (.iload_n 2, 1) := by decide +kernel
theorem dX5_withdraw_68 : decode cX5_withdraw 68 = .ok (.aload_n 0, 1) := by decide +kernel
theorem dX5_withdraw_69 : decode cX5_withdraw 69 = .ok (.getfield 13, 3) := by decide +kernel
theorem dX5_withdraw_72 : decode cX5_withdraw 72 = .ok (.iload_n 2, 1) := by decide +kernel
theorem dX5_withdraw_73 : decode cX5_withdraw 73 = .ok (.iconst 4, 1) := by decide +kernel
theorem dX5_withdraw_74 : decode cX5_withdraw 74 = .ok (.iadd, 1) := by decide +kernel
theorem dX5_withdraw_75 : decode cX5_withdraw 75 = .ok (.iaload, 1) := by decide +kernel
theorem dX5_withdraw_76 : decode cX5_withdraw 76 = .ok (.iastore, 1) := by decide +kernel
theorem dX5_withdraw_77 : decode cX5_withdraw 77 = .ok (.iinc 2 1, 3) := by decide +kernel
theorem dX5_withdraw_80 : decode cX5_withdraw 80 = .ok (.goto (-32), 3) := by decide +kernel
theorem dX5_withdraw_83 : decode cX5_withdraw 83 = .ok (.aload_n 0, 1) := by decide +kernel
theorem dX5_withdraw_84 : decode cX5_withdraw 84 = .ok (.getfield 13, 3) := by decide +kernel
theorem dX5_withdraw_87 : decode cX5_withdraw 87 = .ok (.iconst 1, 1) := by decide +kernel
theorem dX5_withdraw_88 : decode cX5_withdraw 88 = .ok (.iaload, 1) := by decide +kernel
theorem dX5_withdraw_89 : decode cX5_withdraw 89 = .ok (.ireturn, 1) := by decide +kernel
theorem dX5_isWithin_0 : decode cX5_isWithin 0 = .ok (.iload_n 0, 1) := by decide +kernel
theorem dX5_isWithin_1 : decode cX5_isWithin 1 = .ok (.tableswitch 51 0 3 #[31, 51, 41, 41], 31) := by decide +kernel
theorem dX5_isWithin_32 : decode cX5_isWithin 32 = .ok (.iload_n 1, 1) := by decide +kernel
theorem dX5_isWithin_33 : decode cX5_isWithin 33 = .ok (.i2l, 1) := by decide +kernel
theorem dX5_isWithin_34 : decode cX5_isWithin 34 = .ok (.lconst 1, 1) := by decide +kernel
theorem dX5_isWithin_35 : decode cX5_isWithin 35 = .ok (.ldc2_w 365, 3) := by decide +kernel
theorem dX5_isWithin_38 : decode cX5_isWithin 38 = .ok (.invokestatic 161, 3) := by decide +kernel
theorem dX5_isWithin_41 : decode cX5_isWithin 41 = .ok (.ireturn, 1) := by decide +kernel
theorem dX5_isWithin_42 : decode cX5_isWithin 42 = .ok (.iload_n 1, 1) := by decide +kernel
theorem dX5_isWithin_43 : decode cX5_isWithin 43 = .ok (.i2l, 1) := by decide +kernel
theorem dX5_isWithin_44 : decode cX5_isWithin 44 = .ok (.lconst 0, 1) := by decide +kernel
theorem dX5_isWithin_45 : decode cX5_isWithin 45 = .ok (.ldc2_w 337, 3) := by decide +kernel
theorem dX5_isWithin_48 : decode cX5_isWithin 48 = .ok (.invokestatic 161, 3) := by decide +kernel
theorem dX5_isWithin_51 : decode cX5_isWithin 51 = .ok (.ireturn, 1) := by decide +kernel
theorem dX5_isWithin_52 : decode cX5_isWithin 52 = .ok (.iload_n 1, 1) := by decide +kernel
theorem dX5_isWithin_53 : decode cX5_isWithin 53 = .ok (.i2l, 1) := by decide +kernel
theorem dX5_isWithin_54 : decode cX5_isWithin 54 = .ok (.lconst 0, 1) := by decide +kernel
theorem dX5_isWithin_55 : decode cX5_isWithin 55 = .ok (.lconst 1, 1) := by decide +kernel
theorem dX5_isWithin_56 : decode cX5_isWithin 56 = .ok (.invokestatic 161, 3) := by decide +kernel
theorem dX5_isWithin_59 : decode cX5_isWithin 59 = .ok (.ireturn, 1) := by decide +kernel
theorem dX5_become_0 : decode cX5_become 0 = .ok (.aload_n 0, 1) := by decide +kernel
theorem dX5_become_1 : decode cX5_become 1 = .ok (.invokevirtual 212, 3) := by decide +kernel
theorem dX5_become_4 : decode cX5_become 4 = .ok (.aload_n 0, 1) := by decide +kernel
theorem dX5_become_5 : decode cX5_become 5 = .ok (.aload_n 0, 1) := by decide +kernel
theorem dX5_become_6 : decode cX5_become 6 = .ok (.iload_n 1, 1) := by decide +kernel
theorem dX5_become_7 : decode cX5_become 7 = .ok (.invokevirtual 234, 3) := by decide +kernel
theorem dX5_become_10 : decode cX5_become 10 = .ok (.ifCond .eq 20, 3) := by decide +kernel
theorem dX5_become_13 : decode cX5_become 13 = .ok (.iload_n 2, 1) := by decide +kernel
theorem dX5_become_14 : decode cX5_become 14 = .ok (.i2l, 1) := by decide +kernel
theorem dX5_become_15 : decode cX5_become 15 = .ok (.lconst 0, 1) := by decide +kernel
theorem dX5_become_16 : decode cX5_become 16 = .ok (.ldc2_w 397, 3) := by decide +kernel
theorem dX5_become_19 : decode cX5_become 19 = .ok (.invokestatic 161, 3) := by decide +kernel
theorem dX5_become_22 : decode cX5_become 22 = .ok (.ifCond .eq 8, 3) := by decide +kernel
theorem dX5_become_25 : decode cX5_become 25 = .ok (.iload_n 2, 1) := by decide +kernel
theorem dX5_become_26 : decode cX5_become 26 = .ok (.iconst 1, 1) := by decide +kernel
theorem dX5_become_27 : decode cX5_become 27 = .ok (.if_icmp .ne 7, 3) := by decide +kernel
theorem dX5_become_30 : decode cX5_become 30 = .ok (.iconst 1, 1) := by decide +kernel
theorem dX5_become_31 : decode cX5_become 31 = .ok (.goto 4, 3) := by decide +kernel
theorem dX5_become_34 : decode cX5_become 34 = .ok (.iconst 0, 1) := by decide +kernel
theorem dX5_become_35 : decode cX5_become 35 = .ok (.iconst 1, 1) := by decide +kernel
theorem dX5_become_36 : decode cX5_become 36 = .ok (.invokevirtual 215, 3) := by decide +kernel
theorem dX5_become_39 : decode cX5_become 39 = .ok (.ifCond .ne 24, 3) := by decide +kernel
theorem dX5_become_42 : decode cX5_become 42 = .ok (.aload_n 0, 1) := by decide +kernel
theorem dX5_become_43 : decode cX5_become 43 = .ok (.iload_n 2, 1) := by decide +kernel
theorem dX5_become_44 : decode cX5_become 44 = .ok (.iload_n 3, 1) := by decide +kernel
theorem dX5_become_45 : decode cX5_become 45 = .ok (.invokestatic 399, 3) := by decide +kernel
theorem dX5_become_48 : decode cX5_become 48 = .ok (.ifCond .ne 7, 3) := by decide +kernel
theorem dX5_become_51 : decode cX5_become 51 = .ok (.iconst 1, 1) := by decide +kernel
theorem dX5_become_52 : decode cX5_become 52 = .ok (.goto 4, 3) := by decide +kernel
theorem dX5_become_55 : decode cX5_become 55 = .ok (.iconst 0, 1) := by decide +kernel
theorem dX5_become_56 : decode cX5_become 56 = .ok (.iconst 2, 1) := by decide +kernel
theorem dX5_become_57 : decode cX5_become 57 = .ok (.invokevirtual 215, 3) := by decide +kernel
theorem dX5_become_60 : decode cX5_become 60 = .ok (.ifCond .eq 5, 3) := by decide +kernel
theorem dX5_become_63 : decode cX5_become 63 = .ok (.iconst (-1), 1) := by decide +kernel
theorem dX5_become_64 : decode cX5_become 64 = .ok (.ireturn, 1) := by decide +kernel
theorem dX5_become_65 : decode cX5_become 65 = .ok (.aload_n 0, 1) := by decide +kernel
theorem dX5_become_66 : decode cX5_become 66 = .ok (.invokevirtual 392, 3) := by decide +kernel
theorem dX5_become_69 : decode cX5_become 69 = .ok (.aload_n 0, 1) := by decide +kernel
theorem dX5_become_70 : decode cX5_become 70 = .ok (.getfield 13, 3) := by decide +kernel
theorem dX5_become_73 : decode cX5_become 73 = .ok (.iload_n 1, 1) := by decide +kernel
theorem dX5_become_74 : decode cX5_become 74 = .ok (.iload_n 2, 1) := by decide +kernel
theorem dX5_become_75 : decode cX5_become 75 = .ok (.invokestatic 243, 3) := by decide +kernel
theorem dX5_become_78 : decode cX5_become 78 = .ok (.istore 4, 2) := by decide +kernel
theorem dX5_become_80 : decode cX5_become 80 = .ok (.aload_n 0, 1) := by decide +kernel
theorem dX5_become_81 : decode cX5_become 81 = .ok (.getfield 13, 3) := by decide +kernel
theorem dX5_become_84 : decode cX5_become 84 = .ok (.bipush 10, 2) := by decide +kernel
theorem dX5_become_86 : decode cX5_become 86 = .ok (.bipush 6, 2) := by decide +kernel
theorem dX5_become_88 : decode cX5_become 88 = .ok (.iload_n 1, 1) := by decide +kernel
theorem dX5_become_89 : decode cX5_become 89 = .ok (.imul, 1) := by decide +kernel
theorem dX5_become_90 : decode cX5_become 90 = .ok (.iadd, 1) := by decide +kernel
theorem dX5_become_91 : decode cX5_become 91 = .ok (.iload_n 2, 1) := by decide +kernel
theorem dX5_become_92 : decode cX5_become 92 = .ok (.iadd, 1) := by decide +kernel
theorem dX5_become_93 : decode cX5_become 93 = .ok (.iload_n 3, 1) := by decide +kernel
theorem dX5_become_94 : decode cX5_become 94 = .ok (.iastore, 1) := by decide +kernel
theorem dX5_become_95 : decode cX5_become 95 = .ok (.iload 4, 2) := by decide +kernel
theorem dX5_become_97 : decode cX5_become 97 = .ok (.ireturn, 1) := by decide +kernel
theorem dX5_law_0 : decode cX5_law 0 = .ok (.aload_n 0, 1) := by decide +kernel
theorem dX5_law_1 : decode cX5_law 1 = .ok (.invokevirtual 212, 3) := by decide +kernel
theorem dX5_law_4 : decode cX5_law 4 = .ok (.aload_n 0, 1) := by decide +kernel
theorem dX5_law_5 : decode cX5_law 5 = .ok (.aload_n 0, 1) := by decide +kernel
theorem dX5_law_6 : decode cX5_law 6 = .ok (.getfield 225, 3) := by decide +kernel
theorem dX5_law_9 : decode cX5_law 9 = .ok (.ifCond .eq 17, 3) := by decide +kernel
theorem dX5_law_12 : decode cX5_law 12 = .ok (.iload_n 1, 1) := by decide +kernel
theorem dX5_law_13 : decode cX5_law 13 = .ok (.i2l, 1) := by decide +kernel
theorem dX5_law_14 : decode cX5_law 14 = .ok (.ldc2_w 349, 3) := by decide +kernel
theorem dX5_law_17 : decode cX5_law 17 = .ok (.ldc2_w 403, 3) := by decide +kernel
theorem dX5_law_20 : decode cX5_law 20 = .ok (.invokestatic 161, 3) := by decide +kernel
theorem dX5_law_23 : decode cX5_law 23 = .ok (.ifCond .ne 7, 3) := by decide +kernel
theorem dX5_law_26 : decode cX5_law 26 = .ok (.iconst 1, 1) := by decide +kernel
theorem dX5_law_27 : decode cX5_law 27 = .ok (.goto 4, 3) := by decide +kernel
theorem dX5_law_30 : decode cX5_law 30 = .ok (.iconst 0, 1) := by decide +kernel
theorem dX5_law_31 : decode cX5_law 31 = .ok (.iconst 1, 1) := by decide +kernel
theorem dX5_law_32 : decode cX5_law 32 = .ok (.invokevirtual 215, 3) := by decide +kernel
theorem dX5_law_35 : decode cX5_law 35 = .ok (.ifCond .ne 34, 3) := by decide +kernel
theorem dX5_law_38 : decode cX5_law 38 = .ok (.aload_n 0, 1) := by decide +kernel
theorem dX5_law_39 : decode cX5_law 39 = .ok (.iload_n 2, 1) := by decide +kernel
theorem dX5_law_40 : decode cX5_law 40 = .ok (.i2l, 1) := by decide +kernel
theorem dX5_law_41 : decode cX5_law 41 = .ok (.iload_n 1, 1) := by decide +kernel
theorem dX5_law_42 : decode cX5_law 42 = .ok (.invokestatic 185, 3) := by decide +kernel
theorem dX5_law_45 : decode cX5_law 45 = .ok (.i2l, 1) := by decide +kernel
theorem dX5_law_46 : decode cX5_law 46 = .ok (.iload_n 1, 1) := by decide +kernel
theorem dX5_law_47 : decode cX5_law 47 = .ok (.invokestatic 188, 3) := by decide +kernel
theorem dX5_law_50 : decode cX5_law 50 = .ok (.i2l, 1) := by decide +kernel
theorem dX5_law_51 : decode cX5_law 51 = .ok (.invokestatic 161, 3) := by decide +kernel
theorem dX5_law_54 : decode cX5_law 54 = .ok (.ifCond .ne 7, 3) := by decide +kernel
theorem dX5_law_57 : decode cX5_law 57 = .ok (.iconst 1, 1) := by decide +kernel
theorem dX5_law_58 : decode cX5_law 58 = .ok (.goto 4, 3) := by decide +kernel
theorem dX5_law_61 : decode cX5_law 61 = .ok (.iconst 0, 1) := by decide +kernel
theorem dX5_law_62 : decode cX5_law 62 = .ok (.iconst 2, 1) := by decide +kernel
theorem dX5_law_63 : decode cX5_law 63 = .ok (.invokevirtual 215, 3) := by decide +kernel
theorem dX5_law_66 : decode cX5_law 66 = .ok (.ifCond .eq 5, 3) := by decide +kernel
theorem dX5_law_69 : decode cX5_law 69 = .ok (.iconst (-1), 1) := by decide +kernel
theorem dX5_law_70 : decode cX5_law 70 = .ok (.ireturn, 1) := by decide +kernel
theorem dX5_law_71 : decode cX5_law 71 = .ok (.iload_n 1, 1) := by decide +kernel
theorem dX5_law_72 : decode cX5_law 72 = .ok (.bipush 8, 2) := by decide +kernel
theorem dX5_law_74 : decode cX5_law 74 = .ok (.if_icmp .ne 7, 3) := by decide +kernel
theorem dX5_law_77 : decode cX5_law 77 = .ok (.iload_n 2, 1) := by decide +kernel
theorem dX5_law_78 : decode cX5_law 78 = .ok (.goto 10, 3) := by decide +kernel
theorem dX5_law_81 : decode cX5_law 81 = .ok (.aload_n 0, 1) := by decide +kernel
theorem dX5_law_82 : decode cX5_law 82 = .ok (.getfield 13, 3) := by decide +kernel
theorem dX5_law_85 : decode cX5_law 85 = .ok (.bipush 8, 2) := by decide +kernel
theorem dX5_law_87 : decode cX5_law 87 = .ok (.iaload, 1) := by decide +kernel
theorem dX5_law_88 : decode cX5_law 88 = .ok (.istore_n 3, 1) := by decide +kernel
theorem dX5_law_89 : decode cX5_law 89 = .ok (.iload_n 1, 1) := by decide +kernel
theorem dX5_law_90 : decode cX5_law 90 = .ok (.bipush 9, 2) := by decide +kernel
theorem dX5_law_92 : decode cX5_law 92 = .ok (.if_icmp .ne 7, 3) := by decide +kernel
theorem dX5_law_95 : decode cX5_law 95 = .ok (.iload_n 2, 1) := by decide +kernel
theorem dX5_law_96 : decode cX5_law 96 = .ok (.goto 10, 3) := by decide +kernel
theorem dX5_law_99 : decode cX5_law 99 = .ok (.aload_n 0, 1) := by decide +kernel
theorem dX5_law_100 : decode cX5_law 100 = .ok (.getfield 13, 3) := by decide +kernel
theorem dX5_law_103 : decode cX5_law 103 = .ok (.bipush 9, 2) := by decide +kernel
theorem dX5_law_105 : decode cX5_law 105 = .ok (.iaload, 1) := by decide +kernel
theorem dX5_law_106 : decode cX5_law 106 = .ok (.istore 4, 2) := by decide +kernel
theorem dX5_law_108 : decode cX5_law 108 = .ok (.aload_n 0, 1) := by decide +kernel
theorem dX5_law_109 : decode cX5_law 109 = .ok (.iload 4, 2) := by decide +kernel
theorem dX5_law_111 : decode cX5_law 111 = .ok (.iload_n 3, 1) := by decide +kernel
theorem dX5_law_112 : decode cX5_law 112 = .ok (.if_icmp .ge 7, 3) := by decide +kernel
theorem dX5_law_115 : decode cX5_law 115 = .ok (.iconst 1, 1) := by decide +kernel
theorem dX5_law_116 : decode cX5_law 116 = .ok (.goto 4, 3) := by decide +kernel
theorem dX5_law_119 : decode cX5_law 119 = .ok (.iconst 0, 1) := by decide +kernel
theorem dX5_law_120 : decode cX5_law 120 = .ok (.iconst 5, 1) := by decide +kernel
theorem dX5_law_121 : decode cX5_law 121 = .ok (.invokevirtual 215, 3) := by decide +kernel
theorem dX5_law_124 : decode cX5_law 124 = .ok (.ifCond .eq 5, 3) := by decide +kernel
theorem dX5_law_127 : decode cX5_law 127 = .ok (.iconst (-1), 1) := by decide +kernel
theorem dX5_law_128 : decode cX5_law 128 = .ok (.ireturn, 1) := by decide +kernel
theorem dX5_law_129 : decode cX5_law 129 = .ok (.aload_n 0, 1) := by decide +kernel
theorem dX5_law_130 : decode cX5_law 130 = .ok (.invokevirtual 392, 3) := by decide +kernel
theorem dX5_law_133 : decode cX5_law 133 = .ok (.aload_n 0, 1) := by decide +kernel
theorem dX5_law_134 : decode cX5_law 134 = .ok (.getfield 13, 3) := by decide +kernel
theorem dX5_law_137 : decode cX5_law 137 = .ok (.iload_n 1, 1) := by decide +kernel
theorem dX5_law_138 : decode cX5_law 138 = .ok (.iaload, 1) := by decide +kernel
theorem dX5_law_139 : decode cX5_law 139 = .ok (.istore 5, 2) := by decide +kernel
theorem dX5_law_141 : decode cX5_law 141 = .ok (.aload_n 0, 1) := by decide +kernel
theorem dX5_law_142 : decode cX5_law 142 = .ok (.getfield 13, 3) := by decide +kernel
theorem dX5_law_145 : decode cX5_law 145 = .ok (.iload_n 1, 1) := by decide +kernel
theorem dX5_law_146 : decode cX5_law 146 = .ok (.iload_n 2, 1) := by decide +kernel
theorem dX5_law_147 : decode cX5_law 147 = .ok (.iastore, 1) := by decide +kernel
theorem dX5_law_148 : decode cX5_law 148 = .ok (.iload 5, 2) := by decide +kernel
theorem dX5_law_150 : decode cX5_law 150 = .ok (.ireturn, 1) := by decide +kernel
theorem dX5_undo_0 : decode cX5_undo 0 = .ok (.aload_n 0, 1) := by decide +kernel
theorem dX5_undo_1 : decode cX5_undo 1 = .ok (.invokevirtual 212, 3) := by decide +kernel
theorem dX5_undo_4 : decode cX5_undo 4 = .ok (.aload_n 0, 1) := by decide +kernel
theorem dX5_undo_5 : decode cX5_undo 5 = .ok (.aload_n 0, 1) := by decide +kernel
theorem dX5_undo_6 : decode cX5_undo 6 = .ok (.getfield 225, 3) := by decide +kernel
theorem dX5_undo_9 : decode cX5_undo 9 = .ok (.ifCond .ne 7, 3) := by decide +kernel
theorem dX5_undo_12 : decode cX5_undo 12 = .ok (.iconst 1, 1) := by decide +kernel
theorem dX5_undo_13 : decode cX5_undo 13 = .ok (.goto 4, 3) := by decide +kernel
theorem dX5_undo_16 : decode cX5_undo 16 = .ok (.iconst 0, 1) := by decide +kernel
theorem dX5_undo_17 : decode cX5_undo 17 = .ok (.iconst 1, 1) := by decide +kernel
theorem dX5_undo_18 : decode cX5_undo 18 = .ok (.invokevirtual 215, 3) := by decide +kernel
theorem dX5_undo_21 : decode cX5_undo 21 = .ok (.ifCond .ne 23, 3) := by decide +kernel
theorem dX5_undo_24 : decode cX5_undo 24 = .ok (.aload_n 0, 1) := by decide +kernel
theorem dX5_undo_25 : decode cX5_undo 25 = .ok (.aload_n 0, 1) := by decide +kernel
theorem dX5_undo_26 : decode cX5_undo 26 = .ok (.getfield 229, 3) := by decide +kernel
theorem dX5_undo_29 : decode cX5_undo 29 = .ok (.ifCond .ne 7, 3) := by decide +kernel
theorem dX5_undo_32 : decode cX5_undo 32 = .ok (.iconst 1, 1) := by decide +kernel
theorem dX5_undo_33 : decode cX5_undo 33 = .ok (.goto 4, 3) := by decide +kernel
theorem dX5_undo_36 : decode cX5_undo 36 = .ok (.iconst 0, 1) := by decide +kernel
theorem dX5_undo_37 : decode cX5_undo 37 = .ok (.iconst 5, 1) := by decide +kernel
theorem dX5_undo_38 : decode cX5_undo 38 = .ok (.invokevirtual 215, 3) := by decide +kernel
theorem dX5_undo_41 : decode cX5_undo 41 = .ok (.ifCond .eq 5, 3) := by decide +kernel
theorem dX5_undo_44 : decode cX5_undo 44 = .ok (.iconst (-1), 1) := by decide +kernel
theorem dX5_undo_45 : decode cX5_undo 45 = .ok (.ireturn, 1) := by decide +kernel
theorem dX5_undo_46 : decode cX5_undo 46 = .ok (.aload_n 0, 1) := by decide +kernel
theorem dX5_undo_47 : decode cX5_undo 47 = .ok (.dup, 1) := by decide +kernel
theorem dX5_undo_48 : decode cX5_undo 48 = .ok (.getfield 229, 3) := by decide +kernel
theorem dX5_undo_51 : decode cX5_undo 51 = .ok (.iconst 1, 1) := by decide +kernel
theorem dX5_undo_52 : decode cX5_undo 52 = .ok (.isub, 1) := by decide +kernel
theorem dX5_undo_53 : decode cX5_undo 53 = .ok (.putfield 229, 3) := by decide +kernel
theorem dX5_undo_56 : decode cX5_undo 56 = .ok (.iconst 0, 1) := by decide +kernel
theorem dX5_undo_57 : decode cX5_undo 57 = .ok (.istore_n 1, 1) := by decide +kernel
theorem dX5_undo_58 : decode cX5_undo 58 = .ok (.iload_n 1, 1) := by decide +kernel
theorem dX5_undo_59 : decode cX5_undo 59 = .ok (.bipush 82, 2) := by decide +kernel
theorem dX5_undo_61 : decode cX5_undo 61 = .ok (.if_icmp .ge 29, 3) := by decide +kernel
theorem dX5_undo_64 : decode cX5_undo 64 = .ok (.aload_n 0, 1) := by decide +kernel
theorem dX5_undo_65 : decode cX5_undo 65 = .ok (.getfield 13, 3) := by decide +kernel
theorem dX5_undo_68 : decode cX5_undo 68 = .ok (.iload_n 1, 1) := by decide +kernel
theorem dX5_undo_69 : decode cX5_undo 69 = .ok (.aload_n 0, 1) := by decide +kernel
theorem dX5_undo_70 : decode cX5_undo 70 = .ok (.getfield 23, 3) := by decide +kernel
theorem dX5_undo_73 : decode cX5_undo 73 = .ok (.bipush 82, 2) := by decide +kernel
theorem dX5_undo_75 : decode cX5_undo 75 = .ok (.aload_n 0, 1) := by decide +kernel
theorem dX5_undo_76 : decode cX5_undo 76 = .ok (.getfield 229, 3) := by decide +kernel
theorem dX5_undo_79 : decode cX5_undo 79 = .ok (.imul, 1) := by decide +kernel
theorem dX5_undo_80 : decode cX5_undo 80 = .ok (.iload_n 1, 1) := by decide +kernel
theorem dX5_undo_81 : decode cX5_undo 81 = .ok (.iadd, 1) := by decide +kernel
theorem dX5_undo_82 : decode cX5_undo 82 = .ok (.iaload, 1) := by decide +kernel
theorem dX5_undo_83 : decode cX5_undo 83 = .ok (.iastore, 1) := by decide +kernel
theorem dX5_undo_84 : decode cX5_undo 84 = .ok (.iinc 1 1, 3) := by decide +kernel
theorem dX5_undo_87 : decode cX5_undo 87 = .ok (.goto (-29), 3) := by decide +kernel
theorem dX5_undo_90 : decode cX5_undo 90 = .ok (.aload_n 0, 1) := by decide +kernel
theorem dX5_undo_91 : decode cX5_undo 91 = .ok (.getfield 229, 3) := by decide +kernel
theorem dX5_undo_94 : decode cX5_undo 94 = .ok (.ireturn, 1) := by decide +kernel
theorem dX5_image_0 : decode cX5_image 0 = .ok (.aload_n 0, 1) := by decide +kernel
theorem dX5_image_1 : decode cX5_image 1 = .ok (.invokevirtual 212, 3) := by decide +kernel
theorem dX5_image_4 : decode cX5_image 4 = .ok (.aload_n 0, 1) := by decide +kernel
theorem dX5_image_5 : decode cX5_image 5 = .ok (.aload_n 0, 1) := by decide +kernel
theorem dX5_image_6 : decode cX5_image 6 = .ok (.getfield 225, 3) := by decide +kernel
theorem dX5_image_9 : decode cX5_image 9 = .ok (.ifCond .eq 13, 3) := by decide +kernel
theorem dX5_image_12 : decode cX5_image 12 = .ok (.iload_n 1, 1) := by decide +kernel
theorem dX5_image_13 : decode cX5_image 13 = .ok (.i2l, 1) := by decide +kernel
theorem dX5_image_14 : decode cX5_image 14 = .ok (.lconst 0, 1) := by decide +kernel
theorem dX5_image_15 : decode cX5_image 15 = .ok (.lconst 1, 1) := by decide +kernel
theorem dX5_image_16 : decode cX5_image 16 = .ok (.invokestatic 161, 3) := by decide +kernel
theorem dX5_image_19 : decode cX5_image 19 = .ok (.ifCond .ne 7, 3) := by decide +kernel
theorem dX5_image_22 : decode cX5_image 22 = .ok (.iconst 1, 1) := by decide +kernel
theorem dX5_image_23 : decode cX5_image 23 = .ok (.goto 4, 3) := by decide +kernel
theorem dX5_image_26 : decode cX5_image 26 = .ok (.iconst 0, 1) := by decide +kernel
theorem dX5_image_27 : decode cX5_image 27 = .ok (.iconst 1, 1) := by decide +kernel
theorem dX5_image_28 : decode cX5_image 28 = .ok (.invokevirtual 215, 3) := by decide +kernel
theorem dX5_image_31 : decode cX5_image 31 = .ok (.ifCond .eq 5, 3) := by decide +kernel
theorem dX5_image_34 : decode cX5_image 34 = .ok (.iconst 0, 1) := by decide +kernel
theorem dX5_image_35 : decode cX5_image 35 = .ok (.ireturn, 1) := by decide +kernel
theorem dX5_image_36 : decode cX5_image 36 = .ok (.iconst 0, 1) := by decide +kernel
theorem dX5_image_37 : decode cX5_image 37 = .ok (.istore_n 2, 1) := by decide +kernel
theorem dX5_image_38 : decode cX5_image 38 = .ok (.iload_n 2, 1) := by decide +kernel
theorem dX5_image_39 : decode cX5_image 39 = .ok (.bipush 82, 2) := by decide +kernel
theorem dX5_image_41 : decode cX5_image 41 = .ok (.if_icmp .ge 26, 3) := by decide +kernel
theorem dX5_image_44 : decode cX5_image 44 = .ok (.aload_n 0, 1) := by decide +kernel
theorem dX5_image_45 : decode cX5_image 45 = .ok (.getfield 26, 3) := by decide +kernel
theorem dX5_image_48 : decode cX5_image 48 = .ok (.bipush 82, 2) := by decide +kernel
theorem dX5_image_50 : decode cX5_image 50 = .ok (.iload_n 1, 1) := by decide +kernel
theorem dX5_image_51 : decode cX5_image 51 = .ok (.imul, 1) := by decide +kernel
theorem dX5_image_52 : decode cX5_image 52 = .ok (.iload_n 2, 1) := by decide +kernel
theorem dX5_image_53 : decode cX5_image 53 = .ok (.iadd, 1) := by decide +kernel
theorem dX5_image_54 : decode cX5_image 54 = .ok (.aload_n 0, 1) := by decide +kernel
theorem dX5_image_55 : decode cX5_image 55 = .ok (.getfield 13, 3) := by decide +kernel
theorem dX5_image_58 : decode cX5_image 58 = .ok (.iload_n 2, 1) := by decide +kernel
theorem dX5_image_59 : decode cX5_image 59 = .ok (.iaload, 1) := by decide +kernel
theorem dX5_image_60 : decode cX5_image 60 = .ok (.iastore, 1) := by decide +kernel
theorem dX5_image_61 : decode cX5_image 61 = .ok (.iinc 2 1, 3) := by decide +kernel
theorem dX5_image_64 : decode cX5_image 64 = .ok (.goto (-26), 3) := by decide +kernel
theorem dX5_image_67 : decode cX5_image 67 = .ok (.aload_n 0, 1) := by decide +kernel
theorem dX5_image_68 : decode cX5_image 68 = .ok (.getfield 29, 3) := by decide +kernel
theorem dX5_image_71 : decode cX5_image 71 = .ok (.iload_n 1, 1) := by decide +kernel
theorem dX5_image_72 : decode cX5_image 72 = .ok (.iconst 1, 1) := by decide +kernel
theorem dX5_image_73 : decode cX5_image 73 = .ok (.bastore, 1) := by decide +kernel
theorem dX5_image_74 : decode cX5_image 74 = .ok (.iconst 1, 1) := by decide +kernel
theorem dX5_image_75 : decode cX5_image 75 = .ok (.ireturn, 1) := by decide +kernel
theorem dX5_again_0 : decode cX5_again 0 = .ok (.aload_n 0, 1) := by decide +kernel
theorem dX5_again_1 : decode cX5_again 1 = .ok (.invokevirtual 212, 3) := by decide +kernel
theorem dX5_again_4 : decode cX5_again 4 = .ok (.aload_n 0, 1) := by decide +kernel
theorem dX5_again_5 : decode cX5_again 5 = .ok (.aload_n 0, 1) := by decide +kernel
theorem dX5_again_6 : decode cX5_again 6 = .ok (.getfield 225, 3) := by decide +kernel
theorem dX5_again_9 : decode cX5_again 9 = .ok (.ifCond .eq 22, 3) := by decide +kernel
theorem dX5_again_12 : decode cX5_again 12 = .ok (.iload_n 1, 1) := by decide +kernel
theorem dX5_again_13 : decode cX5_again 13 = .ok (.i2l, 1) := by decide +kernel
theorem dX5_again_14 : decode cX5_again 14 = .ok (.lconst 0, 1) := by decide +kernel
theorem dX5_again_15 : decode cX5_again 15 = .ok (.lconst 1, 1) := by decide +kernel
theorem dX5_again_16 : decode cX5_again 16 = .ok (.invokestatic 161, 3) := by decide +kernel
theorem dX5_again_19 : decode cX5_again 19 = .ok (.ifCond .eq 12, 3) := by decide +kernel
theorem dX5_again_22 : decode cX5_again 22 = .ok (.aload_n 0, 1) := by decide +kernel
theorem dX5_again_23 : decode cX5_again 23 = .ok (.getfield 29, 3) := by decide +kernel
theorem dX5_again_26 : decode cX5_again 26 = .ok (.iload_n 1, 1) := by decide +kernel
theorem dX5_again_27 : decode cX5_again 27 = .ok (.baload, 1) := by decide +kernel
theorem dX5_again_28 : decode cX5_again 28 = .ok (.ifCond .ne 7, 3) := by decide +kernel
theorem dX5_again_31 : decode cX5_again 31 = .ok (.iconst 1, 1) := by decide +kernel
theorem dX5_again_32 : decode cX5_again 32 = .ok (.goto 4, 3) := by decide +kernel
theorem dX5_again_35 : decode cX5_again 35 = .ok (.iconst 0, 1) := by decide +kernel
theorem dX5_again_36 : decode cX5_again 36 = .ok (.iconst 1, 1) := by decide +kernel
theorem dX5_again_37 : decode cX5_again 37 = .ok (.invokevirtual 215, 3) := by decide +kernel
theorem dX5_again_40 : decode cX5_again 40 = .ok (.ifCond .eq 5, 3) := by decide +kernel
theorem dX5_again_43 : decode cX5_again 43 = .ok (.iconst 0, 1) := by decide +kernel
theorem dX5_again_44 : decode cX5_again 44 = .ok (.ireturn, 1) := by decide +kernel
theorem dX5_again_45 : decode cX5_again 45 = .ok (.iconst 0, 1) := by decide +kernel
theorem dX5_again_46 : decode cX5_again 46 = .ok (.istore_n 2, 1) := by decide +kernel
theorem dX5_again_47 : decode cX5_again 47 = .ok (.iload_n 2, 1) := by decide +kernel
theorem dX5_again_48 : decode cX5_again 48 = .ok (.bipush 82, 2) := by decide +kernel
theorem dX5_again_50 : decode cX5_again 50 = .ok (.if_icmp .ge 26, 3) := by decide +kernel
theorem dX5_again_53 : decode cX5_again 53 = .ok (.aload_n 0, 1) := by decide +kernel
theorem dX5_again_54 : decode cX5_again 54 = .ok (.getfield 13, 3) := by decide +kernel
theorem dX5_again_57 : decode cX5_again 57 = .ok (.iload_n 2, 1) := by decide +kernel
theorem dX5_again_58 : decode cX5_again 58 = .ok (.aload_n 0, 1) := by decide +kernel
theorem dX5_again_59 : decode cX5_again 59 = .ok (.getfield 26, 3) := by decide +kernel
theorem dX5_again_62 : decode cX5_again 62 = .ok (.bipush 82, 2) := by decide +kernel
theorem dX5_again_64 : decode cX5_again 64 = .ok (.iload_n 1, 1) := by decide +kernel
theorem dX5_again_65 : decode cX5_again 65 = .ok (.imul, 1) := by decide +kernel
theorem dX5_again_66 : decode cX5_again 66 = .ok (.iload_n 2, 1) := by decide +kernel
theorem dX5_again_67 : decode cX5_again 67 = .ok (.iadd, 1) := by decide +kernel
theorem dX5_again_68 : decode cX5_again 68 = .ok (.iaload, 1) := by decide +kernel
theorem dX5_again_69 : decode cX5_again 69 = .ok (.iastore, 1) := by decide +kernel
theorem dX5_again_70 : decode cX5_again 70 = .ok (.iinc 2 1, 3) := by decide +kernel
theorem dX5_again_73 : decode cX5_again 73 = .ok (.goto (-26), 3) := by decide +kernel
theorem dX5_again_76 : decode cX5_again 76 = .ok (.aload_n 0, 1) := by decide +kernel
theorem dX5_again_77 : decode cX5_again 77 = .ok (.iconst 0, 1) := by decide +kernel
theorem dX5_again_78 : decode cX5_again 78 = .ok (.putfield 229, 3) := by decide +kernel
theorem dX5_again_81 : decode cX5_again 81 = .ok (.iconst 1, 1) := by decide +kernel
theorem dX5_again_82 : decode cX5_again 82 = .ok (.ireturn, 1) := by decide +kernel
