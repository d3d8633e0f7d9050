theorem dX0_init_0 : decode cX0_init 0 = .ok (.aload_n 0, 1) := by decide +kernel
theorem dX0_init_1 : decode cX0_init 1 = .ok (.invokespecial 3, 3) := by decide +kernel
theorem dX0_init_4 : decode cX0_init 4 = .ok (.aload_n 0, 1) := by decide +kernel
theorem dX0_init_5 : decode cX0_init 5 = .ok (.sipush 600, 3) := by decide +kernel
theorem dX0_init_8 : decode cX0_init 8 = .ok (.newarray .byte, 2) := by decide +kernel
theorem dX0_init_10 : decode cX0_init 10 = .ok (.putfield 9, 3) := by decide +kernel
theorem dX0_init_13 : decode cX0_init 13 = .ok (.aload_n 0, 1) := by decide +kernel
theorem dX0_init_14 : decode cX0_init 14 = .ok (.new 15, 3) := by decide +kernel
theorem dX0_init_17 : decode cX0_init 17 = .ok (.dup, 1) := by decide +kernel
theorem dX0_init_18 : decode cX0_init 18 = .ok (.invokespecial 17, 3) := by decide +kernel
theorem dX0_init_21 : decode cX0_init 21 = .ok (.putfield 18, 3) := by decide +kernel
theorem dX0_init_24 : decode cX0_init 24 = .ok (.aload_n 0, 1) := by decide +kernel
theorem dX0_init_25 : decode cX0_init 25 = .ok (.bipush 10, 2) := by decide +kernel
theorem dX0_init_27 : decode cX0_init 27 = .ok (.newarray .boolean, 2) := by decide +kernel
theorem dX0_init_29 : decode cX0_init 29 = .ok (.putfield 22, 3) := by decide +kernel
theorem dX0_init_32 : decode cX0_init 32 = .ok (.aload_n 0, 1) := by decide +kernel
theorem dX0_init_33 : decode cX0_init 33 = .ok (.iconst 0, 1) := by decide +kernel
theorem dX0_init_34 : decode cX0_init 34 = .ok (.putfield 26, 3) := by decide +kernel
theorem dX0_init_37 : decode cX0_init 37 = .ok (.aload_n 0, 1) := by decide +kernel
theorem dX0_init_38 : decode cX0_init 38 = .ok (.iconst 0, 1) := by decide +kernel
theorem dX0_init_39 : decode cX0_init 39 = .ok (.putfield 30, 3) := by decide +kernel
theorem dX0_init_42 : decode cX0_init 42 = .ok (.aload_n 0, 1) := by decide +kernel
theorem dX0_init_43 : decode cX0_init 43 = .ok (.iconst 0, 1) := by decide +kernel
theorem dX0_init_44 : decode cX0_init 44 = .ok (.putfield 33, 3) := by decide +kernel
theorem dX0_init_47 : decode cX0_init 47 = .ok (.aload_n 0, 1) := by decide +kernel
theorem dX0_init_48 : decode cX0_init 48 = .ok (.iconst 0, 1) := by decide +kernel
theorem dX0_init_49 : decode cX0_init 49 = .ok (.putfield 36, 3) := by decide +kernel
theorem dX0_init_52 : decode cX0_init 52 = .ok (.aload_n 0, 1) := by decide +kernel
theorem dX0_init_53 : decode cX0_init 53 = .ok (.iconst 0, 1) := by decide +kernel
theorem dX0_init_54 : decode cX0_init 54 = .ok (.putfield 39, 3) := by decide +kernel
theorem dX0_init_57 : decode cX0_init 57 = .ok (.aload_n 0, 1) := by decide +kernel
theorem dX0_init_58 : decode cX0_init 58 = .ok (.iconst 0, 1) := by decide +kernel
theorem dX0_init_59 : decode cX0_init 59 = .ok (.putfield 42, 3) := by decide +kernel
theorem dX0_init_62 : decode cX0_init 62 = .ok (.aload_n 0, 1) := by decide +kernel
theorem dX0_init_63 : decode cX0_init 63 = .ok (.lconst 0, 1) := by decide +kernel
theorem dX0_init_64 : decode cX0_init 64 = .ok (.putfield 45, 3) := by decide +kernel
theorem dX0_init_67 : decode cX0_init 67 = .ok (.aload_n 0, 1) := by decide +kernel
theorem dX0_init_68 : decode cX0_init 68 = .ok (.iconst 0, 1) := by decide +kernel
theorem dX0_init_69 : decode cX0_init 69 = .ok (.putfield 49, 3) := by decide +kernel
theorem dX0_init_72 : decode cX0_init 72 = .ok (.return_, 1) := by decide +kernel
theorem dX0_read_0 : decode cX0_read 0 = .ok (.aload_n 0, 1) := by decide +kernel
theorem dX0_read_1 : decode cX0_read 1 = .ok (.iload_n 1, 1) := by decide +kernel
theorem dX0_read_2 : decode cX0_read 2 = .ok (.invokevirtual 52, 3) := by decide +kernel
theorem dX0_read_5 : decode cX0_read 5 = .ok (.iconst 0, 1) := by decide +kernel
theorem dX0_read_6 : decode cX0_read 6 = .ok (.istore_n 2, 1) := by decide +kernel
theorem dX0_read_7 : decode cX0_read 7 = .ok (.iload_n 2, 1) := by decide +kernel
theorem dX0_read_8 : decode cX0_read 8 = .ok (.aload_n 0, 1) := by decide +kernel
theorem dX0_read_9 : decode cX0_read 9 = .ok (.getfield 26, 3) := by decide +kernel
theorem dX0_read_12 : decode cX0_read 12 = .ok (.if_icmp .gt 55, 3) := by decide +kernel
theorem dX0_read_15 : decode cX0_read 15 = .ok (.aload_n 0, 1) := by decide +kernel
theorem dX0_read_16 : decode cX0_read 16 = .ok (.invokevirtual 56, 3) := by decide +kernel
theorem dX0_read_19 : decode cX0_read 19 = .ok (.aload_n 0, 1) := by decide +kernel
theorem dX0_read_20 : decode cX0_read 20 = .ok (.invokevirtual 59, 3) := by decide +kernel
theorem dX0_read_23 : decode cX0_read 23 = .ok (.ifCond .ne 8, 3) := by decide +kernel
theorem dX0_read_26 : decode cX0_read 26 = .ok (.aload_n 0, 1) := by decide +kernel
theorem dX0_read_27 : decode cX0_read 27 = .ok (.getfield 33, 3) := by decide +kernel
theorem dX0_read_30 : decode cX0_read 30 = .ok (.ireturn, 1) := by decide +kernel
theorem dX0_read_31 : decode cX0_read 31 = .ok (.aload_n 0, 1) := by decide +kernel
theorem dX0_read_32 : decode cX0_read 32 = .ok (.getfield 39, 3) := by decide +kernel
theorem dX0_read_35 : decode cX0_read 35 = .ok (.ifCond .ne 16, 3) := by decide +kernel
theorem dX0_read_38 : decode cX0_read 38 = .ok (.aload_n 0, 1) := by decide +kernel
theorem dX0_read_39 : decode cX0_read 39 = .ok (.invokevirtual 63, 3) := by decide +kernel
theorem dX0_read_42 : decode cX0_read 42 = .ok (.ifCond .eq 7, 3) := by decide +kernel
theorem dX0_read_45 : decode cX0_read 45 = .ok (.iconst 0, 1) := by decide +kernel
theorem dX0_read_46 : decode cX0_read 46 = .ok (.goto 4, 3) := by decide +kernel
theorem dX0_read_49 : decode cX0_read 49 = .ok (.iconst 5, 1) := by decide +kernel
theorem dX0_read_50 : decode cX0_read 50 = .ok (.ireturn, 1) := by decide +kernel
theorem dX0_read_51 : decode cX0_read 51 = .ok (.aload_n 0, 1) := by decide +kernel
theorem dX0_read_52 : decode cX0_read 52 = .ok (.getfield 39, 3) := by decide +kernel
theorem dX0_read_55 : decode cX0_read 55 = .ok (.iconst 3, 1) := by decide +kernel
theorem dX0_read_56 : decode cX0_read 56 = .ok (.if_icmp .eq 5, 3) := by decide +kernel
theorem dX0_read_59 : decode cX0_read 59 = .ok (.iconst 1, 1) := by decide +kernel
theorem dX0_read_60 : decode cX0_read 60 = .ok (.ireturn, 1) := by decide +kernel
theorem dX0_read_61 : decode cX0_read 61 = .ok (.iinc 2 1, 3) := by decide +kernel
theorem dX0_read_64 : decode cX0_read 64 = .ok (.goto (-57), 3) := by decide +kernel
theorem dX0_read_67 : decode cX0_read 67 = .ok (.iconst 1, 1) := by decide +kernel
theorem dX0_read_68 : decode cX0_read 68 = .ok (.ireturn, 1) := by decide +kernel
theorem dX0_begin_0 : decode cX0_begin 0 = .ok (.aload_n 0, 1) := by decide +kernel
theorem dX0_begin_1 : decode cX0_begin 1 = .ok (.iload_n 1, 1) := by decide +kernel
theorem dX0_begin_2 : decode cX0_begin 2 = .ok (.putfield 26, 3) := by decide +kernel
theorem dX0_begin_5 : decode cX0_begin 5 = .ok (.aload_n 0, 1) := by decide +kernel
theorem dX0_begin_6 : decode cX0_begin 6 = .ok (.iconst 0, 1) := by decide +kernel
theorem dX0_begin_7 : decode cX0_begin 7 = .ok (.putfield 30, 3) := by decide +kernel
theorem dX0_begin_10 : decode cX0_begin 10 = .ok (.aload_n 0, 1) := by decide +kernel
theorem dX0_begin_11 : decode cX0_begin 11 = .ok (.iconst 0, 1) := by decide +kernel
theorem dX0_begin_12 : decode cX0_begin 12 = .ok (.putfield 33, 3) := by decide +kernel
theorem dX0_begin_15 : decode cX0_begin 15 = .ok (.aload_n 0, 1) := by decide +kernel
theorem dX0_begin_16 : decode cX0_begin 16 = .ok (.getfield 18, 3) := by decide +kernel
theorem dX0_begin_19 : decode cX0_begin 19 = .ok (.invokevirtual 66, 3) := by decide +kernel
theorem dX0_begin_22 : decode cX0_begin 22 = .ok (.iconst 0, 1) := by decide +kernel
theorem dX0_begin_23 : decode cX0_begin 23 = .ok (.istore_n 2, 1) := by decide +kernel
theorem dX0_begin_24 : decode cX0_begin 24 = .ok (.iload_n 2, 1) := by decide +kernel
theorem dX0_begin_25 : decode cX0_begin 25 = .ok (.bipush 10, 2) := by decide +kernel
theorem dX0_begin_27 : decode cX0_begin 27 = .ok (.if_icmp .ge 16, 3) := by decide +kernel
theorem dX0_begin_30 : decode cX0_begin 30 = .ok (.aload_n 0, 1) := by decide +kernel
theorem dX0_begin_31 : decode cX0_begin 31 = .ok (.getfield 22, 3) := by decide +kernel
theorem dX0_begin_34 : decode cX0_begin 34 = .ok (.iload_n 2, 1) := by decide +kernel
theorem dX0_begin_35 : decode cX0_begin 35 = .ok (.iconst 0, 1) := by decide +kernel
theorem dX0_begin_36 : decode cX0_begin 36 = .ok (.bastore, 1) := by decide +kernel
theorem dX0_begin_37 : decode cX0_begin 37 = .ok (.iinc 2 1, 3) := by decide +kernel
theorem dX0_begin_40 : decode cX0_begin 40 = .ok (.goto (-16), 3) := by decide +kernel
theorem dX0_begin_43 : decode cX0_begin 43 = .ok (.return_, 1) := by decide +kernel
theorem dX0_fail_0 : decode cX0_fail 0 = .ok (.aload_n 0, 1) := by decide +kernel
theorem dX0_fail_1 : decode cX0_fail 1 = .ok (.iload_n 1, 1) := by decide +kernel
theorem dX0_fail_2 : decode cX0_fail 2 = .ok (.putfield 33, 3) := by decide +kernel
theorem dX0_fail_5 : decode cX0_fail 5 = .ok (.iconst 0, 1) := by decide +kernel
theorem dX0_fail_6 : decode cX0_fail 6 = .ok (.ireturn, 1) := by decide +kernel
theorem dX0_fitsTogether_0 : decode cX0_fitsTogether 0 = .ok (.aload_n 0, 1) := by decide +kernel
theorem dX0_fitsTogether_1 : decode cX0_fitsTogether 1 = .ok (.getfield 18, 3) := by decide +kernel
theorem dX0_fitsTogether_4 : decode cX0_fitsTogether 4 = .ok (.getfield 69, 3) := by decide +kernel
theorem dX0_fitsTogether_7 : decode cX0_fitsTogether 7 = .ok (.iconst 2, 1) := by decide +kernel
theorem dX0_fitsTogether_8 : decode cX0_fitsTogether 8 = .ok (.if_icmp .lt 42, 3) := by decide +kernel
theorem dX0_fitsTogether_11 : decode cX0_fitsTogether 11 = .ok (.aload_n 0, 1) := by decide +kernel
theorem dX0_fitsTogether_12 : decode cX0_fitsTogether 12 = .ok (.getfield 18, 3) := by decide +kernel
theorem dX0_fitsTogether_15 : decode cX0_fitsTogether 15 = .ok (.invokevirtual 72, 3) := by decide +kernel
theorem dX0_fitsTogether_18 : decode cX0_fitsTogether 18 = .ok (.bipush 10, 2) := by decide +kernel
theorem dX0_fitsTogether_20 : decode cX0_fitsTogether 20 = .ok (.if_icmp .ne 30, 3) := by decide +kernel
theorem dX0_fitsTogether_23 : decode cX0_fitsTogether 23 = .ok (.aload_n 0, 1) := by decide +kernel
theorem dX0_fitsTogether_24 : decode cX0_fitsTogether 24 = .ok (.getfield 18, 3) := by decide +kernel
theorem dX0_fitsTogether_27 : decode cX0_fitsTogether 27 = .ok (.getfield 76, 3) := by decide +kernel
theorem dX0_fitsTogether_30 : decode cX0_fitsTogether 30 = .ok (.bipush 9, 2) := by decide +kernel
theorem dX0_fitsTogether_32 : decode cX0_fitsTogether 32 = .ok (.iaload, 1) := by decide +kernel
theorem dX0_fitsTogether_33 : decode cX0_fitsTogether 33 = .ok (.aload_n 0, 1) := by decide +kernel
theorem dX0_fitsTogether_34 : decode cX0_fitsTogether 34 = .ok (.getfield 18, 3) := by decide +kernel
theorem dX0_fitsTogether_37 : decode cX0_fitsTogether 37 = .ok (.getfield 76, 3) := by decide +kernel
theorem dX0_fitsTogether_40 : decode cX0_fitsTogether 40 = .ok (.bipush 8, 2) := by decide +kernel
theorem dX0_fitsTogether_42 : decode cX0_fitsTogether 42 = .ok (.iaload, 1) := by decide +kernel
theorem dX0_fitsTogether_43 : decode cX0_fitsTogether 43 = .ok (.if_icmp .lt 7, 3) := by decide +kernel
theorem dX0_fitsTogether_46 : decode cX0_fitsTogether 46 = .ok (.iconst 1, 1) := by decide +kernel
theorem dX0_fitsTogether_47 : decode cX0_fitsTogether 47 = .ok (.goto 4, 3) := by decide +kernel
theorem dX0_fitsTogether_50 : decode cX0_fitsTogether 50 = .ok (.iconst 0, 1) := by decide +kernel
theorem dX0_fitsTogether_51 : decode cX0_fitsTogether 51 = .ok (.ireturn, 1) := by decide +kernel
theorem dX0_readLine_0 : decode cX0_readLine 0 = .ok (.aload_n 0, 1) := by decide +kernel
theorem dX0_readLine_1 : decode cX0_readLine 1 = .ok (.invokevirtual 80, 3) := by decide +kernel
theorem dX0_readLine_4 : decode cX0_readLine 4 = .ok (.astore_n 1, 1) := by decide +kernel
theorem dX0_readLine_5 : decode cX0_readLine 5 = .ok (.aload_n 1, 1) := by decide +kernel
theorem dX0_readLine_6 : decode cX0_readLine 6 = .ok (.ifnull 10, 3) := by decide +kernel
theorem dX0_readLine_9 : decode cX0_readLine 9 = .ok (.aload_n 1, 1) := by decide +kernel
theorem dX0_readLine_10 : decode cX0_readLine 10 = .ok (.getfield 84, 3) := by decide +kernel
theorem dX0_readLine_13 : decode cX0_readLine 13 = .ok (.ifCond .ne 9, 3) := by decide +kernel
theorem dX0_readLine_16 : decode cX0_readLine 16 = .ok (.aload_n 0, 1) := by decide +kernel
theorem dX0_readLine_17 : decode cX0_readLine 17 = .ok (.iconst 1, 1) := by decide +kernel
theorem dX0_readLine_18 : decode cX0_readLine 18 = .ok (.invokevirtual 89, 3) := by decide +kernel
theorem dX0_readLine_21 : decode cX0_readLine 21 = .ok (.ireturn, 1) := by decide +kernel
theorem dX0_readLine_22 : decode cX0_readLine 22 = .ok (.aload_n 1, 1) := by decide +kernel
theorem dX0_readLine_23 : decode cX0_readLine 23 = .ok (.getfield 84, 3) := by decide +kernel
theorem dX0_readLine_26 : decode cX0_readLine 26 = .ok (.iconst 1, 1) := by decide +kernel
theorem dX0_readLine_27 : decode cX0_readLine 27 = .ok (.if_icmp .ne 8, 3) := by decide +kernel
theorem dX0_readLine_30 : decode cX0_readLine 30 = .ok (.aload_n 0, 1) := by decide +kernel
theorem dX0_readLine_31 : decode cX0_readLine 31 = .ok (.invokevirtual 93, 3) := by decide +kernel
theorem dX0_readLine_34 : decode cX0_readLine 34 = .ok (.ireturn, 1) := by decide +kernel
theorem dX0_readLine_35 : decode cX0_readLine 35 = .ok (.aload_n 1, 1) := by decide +kernel
theorem dX0_readLine_36 : decode cX0_readLine 36 = .ok (.getfield 84, 3) := by decide +kernel
theorem dX0_readLine_39 : decode cX0_readLine 39 = .ok (.iconst 2, 1) := by decide +kernel
theorem dX0_readLine_40 : decode cX0_readLine 40 = .ok (.if_icmp .ne 14, 3) := by decide +kernel
theorem dX0_readLine_43 : decode cX0_readLine 43 = .ok (.aload_n 0, 1) := by decide +kernel
theorem dX0_readLine_44 : decode cX0_readLine 44 = .ok (.aload_n 1, 1) := by decide +kernel
theorem dX0_readLine_45 : decode cX0_readLine 45 = .ok (.getfield 96, 3) := by decide +kernel
theorem dX0_readLine_48 : decode cX0_readLine 48 = .ok (.invokevirtual 99, 3) := by decide +kernel
theorem dX0_readLine_51 : decode cX0_readLine 51 = .ok (.goto 11, 3) := by decide +kernel
theorem dX0_readLine_54 : decode cX0_readLine 54 = .ok (.aload_n 0, 1) := by decide +kernel
theorem dX0_readLine_55 : decode cX0_readLine 55 = .ok (.aload_n 1, 1) := by decide +kernel
theorem dX0_readLine_56 : decode cX0_readLine 56 = .ok (.getfield 96, 3) := by decide +kernel
theorem dX0_readLine_59 : decode cX0_readLine 59 = .ok (.invokevirtual 102, 3) := by decide +kernel
theorem dX0_readLine_62 : decode cX0_readLine 62 = .ok (.ireturn, 1) := by decide +kernel
theorem dX0_readShip_0 : decode cX0_readShip 0 = .ok (.aload_n 0, 1) := by decide +kernel
theorem dX0_readShip_1 : decode cX0_readShip 1 = .ok (.getfield 18, 3) := by decide +kernel
theorem dX0_readShip_4 : decode cX0_readShip 4 = .ok (.getfield 69, 3) := by decide +kernel
theorem dX0_readShip_7 : decode cX0_readShip 7 = .ok (.iconst 4, 1) := by decide +kernel
theorem dX0_readShip_8 : decode cX0_readShip 8 = .ok (.if_icmp .lt 9, 3) := by decide +kernel
theorem dX0_readShip_11 : decode cX0_readShip 11 = .ok (.aload_n 0, 1) := by decide +kernel
theorem dX0_readShip_12 : decode cX0_readShip 12 = .ok (.iconst 4, 1) := by decide +kernel
theorem dX0_readShip_13 : decode cX0_readShip 13 = .ok (.invokevirtual 89, 3) := by decide +kernel
theorem dX0_readShip_16 : decode cX0_readShip 16 = .ok (.ireturn, 1) := by decide +kernel
theorem dX0_readShip_17 : decode cX0_readShip 17 = .ok (.aload_n 0, 1) := by decide +kernel
theorem dX0_readShip_18 : decode cX0_readShip 18 = .ok (.invokevirtual 56, 3) := by decide +kernel
theorem dX0_readShip_21 : decode cX0_readShip 21 = .ok (.aload_n 0, 1) := by decide +kernel
theorem dX0_readShip_22 : decode cX0_readShip 22 = .ok (.invokevirtual 105, 3) := by decide +kernel
theorem dX0_readShip_25 : decode cX0_readShip 25 = .ok (.ifCond .ne 9, 3) := by decide +kernel
theorem dX0_readShip_28 : decode cX0_readShip 28 = .ok (.aload_n 0, 1) := by decide +kernel
theorem dX0_readShip_29 : decode cX0_readShip 29 = .ok (.iconst 1, 1) := by decide +kernel
theorem dX0_readShip_30 : decode cX0_readShip 30 = .ok (.invokevirtual 89, 3) := by decide +kernel
theorem dX0_readShip_33 : decode cX0_readShip 33 = .ok (.ireturn, 1) := by decide +kernel
theorem dX0_readShip_34 : decode cX0_readShip 34 = .ok (.aload_n 0, 1) := by decide +kernel
theorem dX0_readShip_35 : decode cX0_readShip 35 = .ok (.getfield 18, 3) := by decide +kernel
theorem dX0_readShip_38 : decode cX0_readShip 38 = .ok (.aload_n 0, 1) := by decide +kernel
theorem dX0_readShip_39 : decode cX0_readShip 39 = .ok (.getfield 45, 3) := by decide +kernel
theorem dX0_readShip_42 : decode cX0_readShip 42 = .ok (.invokevirtual 108, 3) := by decide +kernel
theorem dX0_readShip_45 : decode cX0_readShip 45 = .ok (.iconst (-1), 1) := by decide +kernel
theorem dX0_readShip_46 : decode cX0_readShip 46 = .ok (.if_icmp .eq 9, 3) := by decide +kernel
theorem dX0_readShip_49 : decode cX0_readShip 49 = .ok (.aload_n 0, 1) := by decide +kernel
theorem dX0_readShip_50 : decode cX0_readShip 50 = .ok (.iconst 3, 1) := by decide +kernel
theorem dX0_readShip_51 : decode cX0_readShip 51 = .ok (.invokevirtual 89, 3) := by decide +kernel
theorem dX0_readShip_54 : decode cX0_readShip 54 = .ok (.ireturn, 1) := by decide +kernel
theorem dX0_readShip_55 : decode cX0_readShip 55 = .ok (.aload_n 0, 1) := by decide +kernel
theorem dX0_readShip_56 : decode cX0_readShip 56 = .ok (.getfield 18, 3) := by decide +kernel
theorem dX0_readShip_59 : decode cX0_readShip 59 = .ok (.aload_n 0, 1) := by decide +kernel
theorem dX0_readShip_60 : decode cX0_readShip 60 = .ok (.getfield 45, 3) := by decide +kernel
theorem dX0_readShip_63 : decode cX0_readShip 63 = .ok (.invokevirtual 112, 3) := by decide +kernel
theorem dX0_readShip_66 : decode cX0_readShip 66 = .ok (.aload_n 0, 1) := by decide +kernel
theorem dX0_readShip_67 : decode cX0_readShip 67 = .ok (.invokevirtual 56, 3) := by decide +kernel
theorem dX0_readShip_70 : decode cX0_readShip 70 = .ok (.aload_n 0, 1) := by decide +kernel
theorem dX0_readShip_71 : decode cX0_readShip 71 = .ok (.getstatic 116, 3) := by decide +kernel
theorem dX0_readShip_74 : decode cX0_readShip 74 = .ok (.invokevirtual 120, 3) := by decide +kernel
theorem dX0_readShip_77 : decode cX0_readShip 77 = .ok (.ifCond .eq 33, 3) := by decide +kernel
theorem dX0_readShip_80 : decode cX0_readShip 80 = .ok (.aload_n 0, 1) := by decide +kernel
theorem dX0_readShip_81 : decode cX0_readShip 81 = .ok (.getstatic 124, 3) := by decide +kernel
theorem dX0_readShip_84 : decode cX0_readShip 84 = .ok (.invokevirtual 120, 3) := by decide +kernel
theorem dX0_readShip_87 : decode cX0_readShip 87 = .ok (.ifCond .eq 23, 3) := by decide +kernel
theorem dX0_readShip_90 : decode cX0_readShip 90 = .ok (.aload_n 0, 1) := by decide +kernel
theorem dX0_readShip_91 : decode cX0_readShip 91 = .ok (.getstatic 127, 3) := by decide +kernel
theorem dX0_readShip_94 : decode cX0_readShip 94 = .ok (.invokevirtual 120, 3) := by decide +kernel
theorem dX0_readShip_97 : decode cX0_readShip 97 = .ok (.ifCond .eq 13, 3) := by decide +kernel
theorem dX0_readShip_100 : decode cX0_readShip 100 = .ok (.aload_n 0, 1) := by decide +kernel
theorem dX0_readShip_101 : decode cX0_readShip 101 = .ok (.getstatic 130, 3) := by decide +kernel
theorem dX0_readShip_104 : decode cX0_readShip 104 = .ok (.invokevirtual 120, 3) := by decide +kernel
theorem dX0_readShip_107 : decode cX0_readShip 107 = .ok (.ifCond .ne 5, 3) := by decide +kernel
theorem dX0_readShip_110 : decode cX0_readShip 110 = .ok (.iconst 0, 1) := by decide +kernel
theorem dX0_readShip_111 : decode cX0_readShip 111 = .ok (.ireturn, 1) := by decide +kernel
theorem dX0_readShip_112 : decode cX0_readShip 112 = .ok (.aload_n 0, 1) := by decide +kernel
theorem dX0_readShip_113 : decode cX0_readShip 113 = .ok (.getstatic 133, 3) := by decide +kernel
theorem dX0_readShip_116 : decode cX0_readShip 116 = .ok (.invokevirtual 136, 3) := by decide +kernel
theorem dX0_readShip_119 : decode cX0_readShip 119 = .ok (.aload_n 0, 1) := by decide +kernel
theorem dX0_readShip_120 : decode cX0_readShip 120 = .ok (.getstatic 140, 3) := by decide +kernel
theorem dX0_readShip_123 : decode cX0_readShip 123 = .ok (.invokevirtual 136, 3) := by decide +kernel
theorem dX0_readShip_126 : decode cX0_readShip 126 = .ok (.iconst 1, 1) := by decide +kernel
theorem dX0_readShip_127 : decode cX0_readShip 127 = .ok (.ireturn, 1) := by decide +kernel
theorem dX0_readColumn_0 : decode cX0_readColumn 0 = .ok (.aload_n 1, 1) := by decide +kernel
theorem dX0_readColumn_1 : decode cX0_readColumn 1 = .ok (.getfield 96, 3) := by decide +kernel
theorem dX0_readColumn_4 : decode cX0_readColumn 4 = .ok (.istore_n 2, 1) := by decide +kernel
theorem dX0_readColumn_5 : decode cX0_readColumn 5 = .ok (.aload_n 0, 1) := by decide +kernel
theorem dX0_readColumn_6 : decode cX0_readColumn 6 = .ok (.invokevirtual 80, 3) := by decide +kernel
theorem dX0_readColumn_9 : decode cX0_readColumn 9 = .ok (.aload_n 1, 1) := by decide +kernel
theorem dX0_readColumn_10 : decode cX0_readColumn 10 = .ok (.if_acmp .eq 9, 3) := by decide +kernel
theorem dX0_readColumn_13 : decode cX0_readColumn 13 = .ok (.aload_n 0, 1) := by decide +kernel
theorem dX0_readColumn_14 : decode cX0_readColumn 14 = .ok (.iconst 1, 1) := by decide +kernel
theorem dX0_readColumn_15 : decode cX0_readColumn 15 = .ok (.invokevirtual 89, 3) := by decide +kernel
theorem dX0_readColumn_18 : decode cX0_readColumn 18 = .ok (.ireturn, 1) := by decide +kernel
theorem dX0_readColumn_19 : decode cX0_readColumn 19 = .ok (.aload_n 0, 1) := by decide +kernel
theorem dX0_readColumn_20 : decode cX0_readColumn 20 = .ok (.invokevirtual 56, 3) := by decide +kernel
theorem dX0_readColumn_23 : decode cX0_readColumn 23 = .ok (.aload_n 0, 1) := by decide +kernel
theorem dX0_readColumn_24 : decode cX0_readColumn 24 = .ok (.getstatic 143, 3) := by decide +kernel
theorem dX0_readColumn_27 : decode cX0_readColumn 27 = .ok (.iload_n 2, 1) := by decide +kernel
theorem dX0_readColumn_28 : decode cX0_readColumn 28 = .ok (.iaload, 1) := by decide +kernel
theorem dX0_readColumn_29 : decode cX0_readColumn 29 = .ok (.getstatic 146, 3) := by decide +kernel
theorem dX0_readColumn_32 : decode cX0_readColumn 32 = .ok (.iload_n 2, 1) := by decide +kernel
theorem dX0_readColumn_33 : decode cX0_readColumn 33 = .ok (.iaload, 1) := by decide +kernel
theorem dX0_readColumn_34 : decode cX0_readColumn 34 = .ok (.invokevirtual 149, 3) := by decide +kernel
theorem dX0_readColumn_37 : decode cX0_readColumn 37 = .ok (.ifCond .ne 5, 3) := by decide +kernel
theorem dX0_readColumn_40 : decode cX0_readColumn 40 = .ok (.iconst 0, 1) := by decide +kernel
theorem dX0_readColumn_41 : decode cX0_readColumn 41 = .ok (.ireturn, 1) := by decide +kernel
theorem dX0_readColumn_42 : decode cX0_readColumn 42 = .ok (.aload_n 0, 1) := by decide +kernel
theorem dX0_readColumn_43 : decode cX0_readColumn 43 = .ok (.getfield 18, 3) := by decide +kernel
theorem dX0_readColumn_46 : decode cX0_readColumn 46 = .ok (.aload_n 0, 1) := by decide +kernel
theorem dX0_readColumn_47 : decode cX0_readColumn 47 = .ok (.getfield 18, 3) := by decide +kernel
theorem dX0_readColumn_50 : decode cX0_readColumn 50 = .ok (.getfield 69, 3) := by decide +kernel
theorem dX0_readColumn_53 : decode cX0_readColumn 53 = .ok (.iconst 1, 1) := by decide +kernel
theorem dX0_readColumn_54 : decode cX0_readColumn 54 = .ok (.isub, 1) := by decide +kernel
theorem dX0_readColumn_55 : decode cX0_readColumn 55 = .ok (.iload_n 2, 1) := by decide +kernel
theorem dX0_readColumn_56 : decode cX0_readColumn 56 = .ok (.aload_n 0, 1) := by decide +kernel
theorem dX0_readColumn_57 : decode cX0_readColumn 57 = .ok (.getfield 49, 3) := by decide +kernel
theorem dX0_readColumn_60 : decode cX0_readColumn 60 = .ok (.invokevirtual 153, 3) := by decide +kernel
theorem dX0_readColumn_63 : decode cX0_readColumn 63 = .ok (.aload_n 0, 1) := by decide +kernel
theorem dX0_readColumn_64 : decode cX0_readColumn 64 = .ok (.invokevirtual 56, 3) := by decide +kernel
theorem dX0_readColumn_67 : decode cX0_readColumn 67 = .ok (.iconst 1, 1) := by decide +kernel
theorem dX0_readColumn_68 : decode cX0_readColumn 68 = .ok (.ireturn, 1) := by decide +kernel
theorem dX0_readMark_0 : decode cX0_readMark 0 = .ok (.aload_n 0, 1) := by decide +kernel
theorem dX0_readMark_1 : decode cX0_readMark 1 = .ok (.invokevirtual 80, 3) := by decide +kernel
theorem dX0_readMark_4 : decode cX0_readMark 4 = .ok (.aload_n 1, 1) := by decide +kernel
theorem dX0_readMark_5 : decode cX0_readMark 5 = .ok (.if_acmp .ne 28, 3) := by decide +kernel
theorem dX0_readMark_8 : decode cX0_readMark 8 = .ok (.aload_n 0, 1) := by decide +kernel
theorem dX0_readMark_9 : decode cX0_readMark 9 = .ok (.getfield 18, 3) := by decide +kernel
theorem dX0_readMark_12 : decode cX0_readMark 12 = .ok (.aload_n 0, 1) := by decide +kernel
theorem dX0_readMark_13 : decode cX0_readMark 13 = .ok (.getfield 18, 3) := by decide +kernel
theorem dX0_readMark_16 : decode cX0_readMark 16 = .ok (.getfield 69, 3) := by decide +kernel
theorem dX0_readMark_19 : decode cX0_readMark 19 = .ok (.iconst 1, 1) := by decide +kernel
theorem dX0_readMark_20 : decode cX0_readMark 20 = .ok (.isub, 1) := by decide +kernel
theorem dX0_readMark_21 : decode cX0_readMark 21 = .ok (.aload_n 1, 1) := by decide +kernel
theorem dX0_readMark_22 : decode cX0_readMark 22 = .ok (.getfield 96, 3) := by decide +kernel
theorem dX0_readMark_25 : decode cX0_readMark 25 = .ok (.iconst 1, 1) := by decide +kernel
theorem dX0_readMark_26 : decode cX0_readMark 26 = .ok (.invokevirtual 153, 3) := by decide +kernel
theorem dX0_readMark_29 : decode cX0_readMark 29 = .ok (.aload_n 0, 1) := by decide +kernel
theorem dX0_readMark_30 : decode cX0_readMark 30 = .ok (.invokevirtual 56, 3) := by decide +kernel
theorem dX0_readMark_33 : decode cX0_readMark 33 = .ok (.return_, 1) := by decide +kernel
theorem dX0_readClaim_0 : decode cX0_readClaim 0 = .ok (.aload_n 0, 1) := by decide +kernel
theorem dX0_readClaim_1 : decode cX0_readClaim 1 = .ok (.getfield 18, 3) := by decide +kernel
theorem dX0_readClaim_4 : decode cX0_readClaim 4 = .ok (.getfield 157, 3) := by decide +kernel
theorem dX0_readClaim_7 : decode cX0_readClaim 7 = .ok (.bipush 12, 2) := by decide +kernel
theorem dX0_readClaim_9 : decode cX0_readClaim 9 = .ok (.if_icmp .lt 9, 3) := by decide +kernel
theorem dX0_readClaim_12 : decode cX0_readClaim 12 = .ok (.aload_n 0, 1) := by decide +kernel
theorem dX0_readClaim_13 : decode cX0_readClaim 13 = .ok (.iconst 4, 1) := by decide +kernel
theorem dX0_readClaim_14 : decode cX0_readClaim 14 = .ok (.invokevirtual 89, 3) := by decide +kernel
theorem dX0_readClaim_17 : decode cX0_readClaim 17 = .ok (.ireturn, 1) := by decide +kernel
theorem dX0_readClaim_18 : decode cX0_readClaim 18 = .ok (.aload_n 0, 1) := by decide +kernel
theorem dX0_readClaim_19 : decode cX0_readClaim 19 = .ok (.invokevirtual 56, 3) := by decide +kernel
theorem dX0_readClaim_22 : decode cX0_readClaim 22 = .ok (.bipush (-2), 2) := by decide +kernel
theorem dX0_readClaim_24 : decode cX0_readClaim 24 = .ok (.istore_n 2, 1) := by decide +kernel
theorem dX0_readClaim_25 : decode cX0_readClaim 25 = .ok (.iload_n 1, 1) := by decide +kernel
theorem dX0_readClaim_26 : decode cX0_readClaim 26 = .ok (.ifCond .ne 43, 3) := by decide +kernel
theorem dX0_readClaim_29 : decode cX0_readClaim 29 = .ok (.aload_n 0, 1) := by decide +kernel
theorem dX0_readClaim_30 : decode cX0_readClaim 30 = .ok (.invokevirtual 105, 3) := by decide +kernel
theorem dX0_readClaim_33 : decode cX0_readClaim 33 = .ok (.ifCond .ne 9, 3) := by decide +kernel
theorem dX0_readClaim_36 : decode cX0_readClaim 36 = .ok (.aload_n 0, 1) := by decide +kernel
theorem dX0_readClaim_37 : decode cX0_readClaim 37 = .ok (.iconst 1, 1) := by decide +kernel
theorem dX0_readClaim_38 : decode cX0_readClaim 38 = .ok (.invokevirtual 89, 3) := by decide +kernel
theorem dX0_readClaim_41 : decode cX0_readClaim 41 = .ok (.ireturn, 1) := by decide +kernel
theorem dX0_readClaim_42 : decode cX0_readClaim 42 = .ok (.aload_n 0, 1) := by decide +kernel
theorem dX0_readClaim_43 : decode cX0_readClaim 43 = .ok (.getfield 18, 3) := by decide +kernel
theorem dX0_readClaim_46 : decode cX0_readClaim 46 = .ok (.aload_n 0, 1) := by decide +kernel
theorem dX0_readClaim_47 : decode cX0_readClaim 47 = .ok (.getfield 45, 3) := by decide +kernel
theorem dX0_readClaim_50 : decode cX0_readClaim 50 = .ok (.invokevirtual 108, 3) := by decide +kernel
theorem dX0_readClaim_53 : decode cX0_readClaim 53 = .ok (.istore_n 2, 1) := by decide +kernel
theorem dX0_readClaim_54 : decode cX0_readClaim 54 = .ok (.iload_n 2, 1) := by decide +kernel
theorem dX0_readClaim_55 : decode cX0_readClaim 55 = .ok (.iconst (-1), 1) := by decide +kernel
theorem dX0_readClaim_56 : decode cX0_readClaim 56 = .ok (.if_icmp .ne 9, 3) := by decide +kernel
theorem dX0_readClaim_59 : decode cX0_readClaim 59 = .ok (.aload_n 0, 1) := by decide +kernel
theorem dX0_readClaim_60 : decode cX0_readClaim 60 = .ok (.iconst 3, 1) := by decide +kernel
theorem dX0_readClaim_61 : decode cX0_readClaim 61 = .ok (.invokevirtual 89, 3) := by decide +kernel
theorem dX0_readClaim_64 : decode cX0_readClaim 64 = .ok (.ireturn, 1) := by decide +kernel
theorem dX0_readClaim_65 : decode cX0_readClaim 65 = .ok (.aload_n 0, 1) := by decide +kernel
theorem dX0_readClaim_66 : decode cX0_readClaim 66 = .ok (.invokevirtual 56, 3) := by decide +kernel
theorem dX0_readClaim_69 : decode cX0_readClaim 69 = .ok (.aload_n 0, 1) := by decide +kernel
theorem dX0_readClaim_70 : decode cX0_readClaim 70 = .ok (.iconst 1, 1) := by decide +kernel
theorem dX0_readClaim_71 : decode cX0_readClaim 71 = .ok (.ldc 160, 2) := by decide +kernel
theorem dX0_readClaim_73 : decode cX0_readClaim 73 = .ok (.invokevirtual 149, 3) := by decide +kernel
theorem dX0_readClaim_76 : decode cX0_readClaim 76 = .ok (.ifCond .ne 5, 3) := by decide +kernel
theorem dX0_readClaim_79 : decode cX0_readClaim 79 = .ok (.iconst 0, 1) := by decide +kernel
theorem dX0_readClaim_80 : decode cX0_readClaim 80 = .ok (.ireturn, 1) := by decide +kernel
theorem dX0_readClaim_81 : decode cX0_readClaim 81 = .ok (.aload_n 0, 1) := by decide +kernel
theorem dX0_readClaim_82 : decode cX0_readClaim 82 = .ok (.getfield 49, 3) := by decide +kernel
theorem dX0_readClaim_85 : decode cX0_readClaim 85 = .ok (.istore_n 3, 1) := by decide +kernel
theorem dX0_readClaim_86 : decode cX0_readClaim 86 = .ok (.aload_n 0, 1) := by decide +kernel
theorem dX0_readClaim_87 : decode cX0_readClaim 87 = .ok (.invokevirtual 56, 3) := by decide +kernel
theorem dX0_readClaim_90 : decode cX0_readClaim 90 = .ok (.aload_n 0, 1) := by decide +kernel
theorem dX0_readClaim_91 : decode cX0_readClaim 91 = .ok (.invokevirtual 80, 3) := by decide +kernel
theorem dX0_readClaim_94 : decode cX0_readClaim 94 = .ok (.getstatic 161, 3) := by decide +kernel
theorem dX0_readClaim_97 : decode cX0_readClaim 97 = .ok (.if_acmp .eq 9, 3) := by decide +kernel
theorem dX0_readClaim_100 : decode cX0_readClaim 100 = .ok (.aload_n 0, 1) := by decide +kernel
theorem dX0_readClaim_101 : decode cX0_readClaim 101 = .ok (.iconst 1, 1) := by decide +kernel
theorem dX0_readClaim_102 : decode cX0_readClaim 102 = .ok (.invokevirtual 89, 3) := by decide +kernel
theorem dX0_readClaim_105 : decode cX0_readClaim 105 = .ok (.ireturn, 1) := by decide +kernel
theorem dX0_readClaim_106 : decode cX0_readClaim 106 = .ok (.aload_n 0, 1) := by decide +kernel
theorem dX0_readClaim_107 : decode cX0_readClaim 107 = .ok (.invokevirtual 56, 3) := by decide +kernel
theorem dX0_readClaim_110 : decode cX0_readClaim 110 = .ok (.aload_n 0, 1) := by decide +kernel
theorem dX0_readClaim_111 : decode cX0_readClaim 111 = .ok (.iconst 0, 1) := by decide +kernel
theorem dX0_readClaim_112 : decode cX0_readClaim 112 = .ok (.sipush 999, 3) := by decide +kernel
theorem dX0_readClaim_115 : decode cX0_readClaim 115 = .ok (.invokevirtual 149, 3) := by decide +kernel
theorem dX0_readClaim_118 : decode cX0_readClaim 118 = .ok (.ifCond .ne 5, 3) := by decide +kernel
theorem dX0_readClaim_121 : decode cX0_readClaim 121 = .ok (.iconst 0, 1) := by decide +kernel
theorem dX0_readClaim_122 : decode cX0_readClaim 122 = .ok (.ireturn, 1) := by decide +kernel
theorem dX0_readClaim_123 : decode cX0_readClaim 123 = .ok (.aload_n 0, 1) := by decide +kernel
theorem dX0_readClaim_124 : decode cX0_readClaim 124 = .ok (.getfield 18, 3) := by decide +kernel
theorem dX0_readClaim_127 : decode cX0_readClaim 127 = .ok (.iload_n 1, 1) := by decide +kernel
theorem dX0_readClaim_128 : decode cX0_readClaim 128 = .ok (.iload_n 2, 1) := by decide +kernel
theorem dX0_readClaim_129 : decode cX0_readClaim 129 = .ok (.iload_n 3, 1) := by decide +kernel
theorem dX0_readClaim_130 : decode cX0_readClaim 130 = .ok (.aload_n 0, 1) := by decide +kernel
theorem dX0_readClaim_131 : decode cX0_readClaim 131 = .ok (.getfield 49, 3) := by decide +kernel
theorem dX0_readClaim_134 : decode cX0_readClaim 134 = .ok (.invokevirtual 164, 3) := by decide +kernel
theorem dX0_readClaim_137 : decode cX0_readClaim 137 = .ok (.aload_n 0, 1) := by decide +kernel
theorem dX0_readClaim_138 : decode cX0_readClaim 138 = .ok (.invokevirtual 56, 3) := by decide +kernel
theorem dX0_readClaim_141 : decode cX0_readClaim 141 = .ok (.iconst 1, 1) := by decide +kernel
theorem dX0_readClaim_142 : decode cX0_readClaim 142 = .ok (.ireturn, 1) := by decide +kernel
theorem dX0_readLaw_0 : decode cX0_readLaw 0 = .ok (.aload_n 0, 1) := by decide +kernel
theorem dX0_readLaw_1 : decode cX0_readLaw 1 = .ok (.getfield 22, 3) := by decide +kernel
theorem dX0_readLaw_4 : decode cX0_readLaw 4 = .ok (.iload_n 1, 1) := by decide +kernel
theorem dX0_readLaw_5 : decode cX0_readLaw 5 = .ok (.baload, 1) := by decide +kernel
theorem dX0_readLaw_6 : decode cX0_readLaw 6 = .ok (.ifCond .eq 9, 3) := by decide +kernel
theorem dX0_readLaw_9 : decode cX0_readLaw 9 = .ok (.aload_n 0, 1) := by decide +kernel
theorem dX0_readLaw_10 : decode cX0_readLaw 10 = .ok (.iconst 3, 1) := by decide +kernel
theorem dX0_readLaw_11 : decode cX0_readLaw 11 = .ok (.invokevirtual 89, 3) := by decide +kernel
theorem dX0_readLaw_14 : decode cX0_readLaw 14 = .ok (.ireturn, 1) := by decide +kernel
theorem dX0_readLaw_15 : decode cX0_readLaw 15 = .ok (.aload_n 0, 1) := by decide +kernel
theorem dX0_readLaw_16 : decode cX0_readLaw 16 = .ok (.getfield 22, 3) := by decide +kernel
theorem dX0_readLaw_19 : decode cX0_readLaw 19 = .ok (.iload_n 1, 1) := by decide +kernel
theorem dX0_readLaw_20 : decode cX0_readLaw 20 = .ok (.iconst 1, 1) := by decide +kernel
theorem dX0_readLaw_21 : decode cX0_readLaw 21 = .ok (.bastore, 1) := by decide +kernel
theorem dX0_readLaw_22 : decode cX0_readLaw 22 = .ok (.aload_n 0, 1) := by decide +kernel
theorem dX0_readLaw_23 : decode cX0_readLaw 23 = .ok (.invokevirtual 56, 3) := by decide +kernel
theorem dX0_readLaw_26 : decode cX0_readLaw 26 = .ok (.iload_n 1, 1) := by decide +kernel
theorem dX0_readLaw_27 : decode cX0_readLaw 27 = .ok (.iconst 5, 1) := by decide +kernel
theorem dX0_readLaw_28 : decode cX0_readLaw 28 = .ok (.if_icmp .ge 15, 3) := by decide +kernel
theorem dX0_readLaw_31 : decode cX0_readLaw 31 = .ok (.aload_n 0, 1) := by decide +kernel
theorem dX0_readLaw_32 : decode cX0_readLaw 32 = .ok (.getfield 18, 3) := by decide +kernel
theorem dX0_readLaw_35 : decode cX0_readLaw 35 = .ok (.getfield 76, 3) := by decide +kernel
theorem dX0_readLaw_38 : decode cX0_readLaw 38 = .ok (.iload_n 1, 1) := by decide +kernel
theorem dX0_readLaw_39 : decode cX0_readLaw 39 = .ok (.iconst 1, 1) := by decide +kernel
theorem dX0_readLaw_40 : decode cX0_readLaw 40 = .ok (.iastore, 1) := by decide +kernel
theorem dX0_readLaw_41 : decode cX0_readLaw 41 = .ok (.iconst 1, 1) := by decide +kernel
theorem dX0_readLaw_42 : decode cX0_readLaw 42 = .ok (.ireturn, 1) := by decide +kernel
theorem dX0_readLaw_43 : decode cX0_readLaw 43 = .ok (.aload_n 0, 1) := by decide +kernel
theorem dX0_readLaw_44 : decode cX0_readLaw 44 = .ok (.getstatic 168, 3) := by decide +kernel
theorem dX0_readLaw_47 : decode cX0_readLaw 47 = .ok (.iload_n 1, 1) := by decide +kernel
theorem dX0_readLaw_48 : decode cX0_readLaw 48 = .ok (.iaload, 1) := by decide +kernel
theorem dX0_readLaw_49 : decode cX0_readLaw 49 = .ok (.getstatic 171, 3) := by decide +kernel
theorem dX0_readLaw_52 : decode cX0_readLaw 52 = .ok (.iload_n 1, 1) := by decide +kernel
theorem dX0_readLaw_53 : decode cX0_readLaw 53 = .ok (.iaload, 1) := by decide +kernel
theorem dX0_readLaw_54 : decode cX0_readLaw 54 = .ok (.invokevirtual 149, 3) := by decide +kernel
theorem dX0_readLaw_57 : decode cX0_readLaw 57 = .ok (.ifCond .ne 5, 3) := by decide +kernel
theorem dX0_readLaw_60 : decode cX0_readLaw 60 = .ok (.iconst 0, 1) := by decide +kernel
theorem dX0_readLaw_61 : decode cX0_readLaw 61 = .ok (.ireturn, 1) := by decide +kernel
theorem dX0_readLaw_62 : decode cX0_readLaw 62 = .ok (.aload_n 0, 1) := by decide +kernel
theorem dX0_readLaw_63 : decode cX0_readLaw 63 = .ok (.getfield 18, 3) := by decide +kernel
theorem dX0_readLaw_66 : decode cX0_readLaw 66 = .ok (.getfield 76, 3) := by decide +kernel
theorem dX0_readLaw_69 : decode cX0_readLaw 69 = .ok (.iload_n 1, 1) := by decide +kernel
theorem dX0_readLaw_70 : decode cX0_readLaw 70 = .ok (.aload_n 0, 1) := by decide +kernel
theorem dX0_readLaw_71 : decode cX0_readLaw 71 = .ok (.getfield 49, 3) := by decide +kernel
theorem dX0_readLaw_74 : decode cX0_readLaw 74 = .ok (.iastore, 1) := by decide +kernel
theorem dX0_readLaw_75 : decode cX0_readLaw 75 = .ok (.aload_n 0, 1) := by decide +kernel
theorem dX0_readLaw_76 : decode cX0_readLaw 76 = .ok (.invokevirtual 56, 3) := by decide +kernel
theorem dX0_readLaw_79 : decode cX0_readLaw 79 = .ok (.iconst 1, 1) := by decide +kernel
theorem dX0_readLaw_80 : decode cX0_readLaw 80 = .ok (.ireturn, 1) := by decide +kernel
theorem dX0_isWholeWithin_0 : decode cX0_isWholeWithin 0 = .ok (.aload_n 0, 1) := by decide +kernel
theorem dX0_isWholeWithin_1 : decode cX0_isWholeWithin 1 = .ok (.getfield 39, 3) := by decide +kernel
theorem dX0_isWholeWithin_4 : decode cX0_isWholeWithin 4 = .ok (.iconst 2, 1) := by decide +kernel
theorem dX0_isWholeWithin_5 : decode cX0_isWholeWithin 5 = .ok (.if_icmp .eq 9, 3) := by decide +kernel
theorem dX0_isWholeWithin_8 : decode cX0_isWholeWithin 8 = .ok (.aload_n 0, 1) := by decide +kernel
theorem dX0_isWholeWithin_9 : decode cX0_isWholeWithin 9 = .ok (.iconst 1, 1) := by decide +kernel
theorem dX0_isWholeWithin_10 : decode cX0_isWholeWithin 10 = .ok (.invokevirtual 89, 3) := by decide +kernel
theorem dX0_isWholeWithin_13 : decode cX0_isWholeWithin 13 = .ok (.ireturn, 1) := by decide +kernel
theorem dX0_isWholeWithin_14 : decode cX0_isWholeWithin 14 = .ok (.aload_n 0, 1) := by decide +kernel
theorem dX0_isWholeWithin_15 : decode cX0_isWholeWithin 15 = .ok (.getfield 49, 3) := by decide +kernel
theorem dX0_isWholeWithin_18 : decode cX0_isWholeWithin 18 = .ok (.iload_n 1, 1) := by decide +kernel
theorem dX0_isWholeWithin_19 : decode cX0_isWholeWithin 19 = .ok (.iload_n 2, 1) := by decide +kernel
theorem dX0_isWholeWithin_20 : decode cX0_isWholeWithin 20 = .ok (.invokestatic 174, 3) := by decide +kernel
theorem dX0_isWholeWithin_23 : decode cX0_isWholeWithin 23 = .ok (.ifCond .ne 11, 3) := by decide +kernel
theorem dX0_isWholeWithin_26 : decode cX0_isWholeWithin 26 = .ok (.aload_n 0, 1) := by decide +kernel
theorem dX0_isWholeWithin_27 : decode cX0_isWholeWithin 27 = .ok (.iconst 2, 1) := by decide +kernel
theorem dX0_isWholeWithin_28 : decode cX0_isWholeWithin 28 = .ok (.invokevirtual 89, 3) := by decide +kernel
theorem dX0_isWholeWithin_31 : decode cX0_isWholeWithin 31 = .ok (.ifCond .eq 7, 3) := by decide +kernel
theorem dX0_isWholeWithin_34 : decode cX0_isWholeWithin 34 = .ok (.iconst 1, 1) := by decide +kernel
theorem dX0_isWholeWithin_35 : decode cX0_isWholeWithin 35 = .ok (.goto 4, 3) := by decide +kernel
theorem dX0_isWholeWithin_38 : decode cX0_isWholeWithin 38 = .ok (.iconst 0, 1) := by decide +kernel
theorem dX0_isWholeWithin_39 : decode cX0_isWholeWithin 39 = .ok (.ireturn, 1) := by decide +kernel
theorem dX0_isName_0 : decode cX0_isName 0 = .ok (.aload_n 0, 1) := by decide +kernel
theorem dX0_isName_1 : decode cX0_isName 1 = .ok (.getfield 39, 3) := by decide +kernel
theorem dX0_isName_4 : decode cX0_isName 4 = .ok (.iconst 1, 1) := by decide +kernel
theorem dX0_isName_5 : decode cX0_isName 5 = .ok (.if_icmp .ne 23, 3) := by decide +kernel
theorem dX0_isName_8 : decode cX0_isName 8 = .ok (.aload_n 0, 1) := by decide +kernel
theorem dX0_isName_9 : decode cX0_isName 9 = .ok (.getfield 42, 3) := by decide +kernel
theorem dX0_isName_12 : decode cX0_isName 12 = .ok (.bipush 6, 2) := by decide +kernel
theorem dX0_isName_14 : decode cX0_isName 14 = .ok (.if_icmp .gt 14, 3) := by decide +kernel
theorem dX0_isName_17 : decode cX0_isName 17 = .ok (.aload_n 0, 1) := by decide +kernel
theorem dX0_isName_18 : decode cX0_isName 18 = .ok (.invokevirtual 80, 3) := by decide +kernel
theorem dX0_isName_21 : decode cX0_isName 21 = .ok (.ifnonnull 7, 3) := by decide +kernel
theorem dX0_isName_24 : decode cX0_isName 24 = .ok (.iconst 1, 1) := by decide +kernel
theorem dX0_isName_25 : decode cX0_isName 25 = .ok (.goto 4, 3) := by decide +kernel
theorem dX0_isName_28 : decode cX0_isName 28 = .ok (.iconst 0, 1) := by decide +kernel
theorem dX0_isName_29 : decode cX0_isName 29 = .ok (.ireturn, 1) := by decide +kernel
theorem dX0_fixedWord_0 : decode cX0_fixedWord 0 = .ok (.aload_n 0, 1) := by decide +kernel
theorem dX0_fixedWord_1 : decode cX0_fixedWord 1 = .ok (.getfield 39, 3) := by decide +kernel
theorem dX0_fixedWord_4 : decode cX0_fixedWord 4 = .ok (.iconst 1, 1) := by decide +kernel
theorem dX0_fixedWord_5 : decode cX0_fixedWord 5 = .ok (.if_icmp .eq 5, 3) := by decide +kernel
theorem dX0_fixedWord_8 : decode cX0_fixedWord 8 = .ok (.aconst_null, 1) := by decide +kernel
theorem dX0_fixedWord_9 : decode cX0_fixedWord 9 = .ok (.areturn, 1) := by decide +kernel
theorem dX0_fixedWord_10 : decode cX0_fixedWord 10 = .ok (.iconst 0, 1) := by decide +kernel
theorem dX0_fixedWord_11 : decode cX0_fixedWord 11 = .ok (.istore_n 1, 1) := by decide +kernel
theorem dX0_fixedWord_12 : decode cX0_fixedWord 12 = .ok (.iload_n 1, 1) := by decide +kernel
theorem dX0_fixedWord_13 : decode cX0_fixedWord 13 = .ok (.getstatic 178, 3) := by decide +kernel
theorem dX0_fixedWord_16 : decode cX0_fixedWord 16 = .ok (.arraylength, 1) := by decide +kernel
theorem dX0_fixedWord_17 : decode cX0_fixedWord 17 = .ok (.if_icmp .ge 31, 3) := by decide +kernel
theorem dX0_fixedWord_20 : decode cX0_fixedWord 20 = .ok (.getstatic 178, 3) := by decide +kernel
theorem dX0_fixedWord_23 : decode cX0_fixedWord 23 = .ok (.iload_n 1, 1) := by decide +kernel
theorem dX0_fixedWord_24 : decode cX0_fixedWord 24 = .ok (.aaload, 1) := by decide +kernel
theorem dX0_fixedWord_25 : decode cX0_fixedWord 25 = .ok (.getfield 182, 3) := by decide +kernel
theorem dX0_fixedWord_28 : decode cX0_fixedWord 28 = .ok (.aload_n 0, 1) := by decide +kernel
theorem dX0_fixedWord_29 : decode cX0_fixedWord 29 = .ok (.getfield 45, 3) := by decide +kernel
theorem dX0_fixedWord_32 : decode cX0_fixedWord 32 = .ok (.lcmp, 1) := by decide +kernel
theorem dX0_fixedWord_33 : decode cX0_fixedWord 33 = .ok (.ifCond .ne 9, 3) := by decide +kernel
theorem dX0_fixedWord_36 : decode cX0_fixedWord 36 = .ok (.getstatic 178, 3) := by decide +kernel
theorem dX0_fixedWord_39 : decode cX0_fixedWord 39 = .ok (.iload_n 1, 1) := by decide +kernel
theorem dX0_fixedWord_40 : decode cX0_fixedWord 40 = .ok (.aaload, 1) := by decide +kernel
theorem dX0_fixedWord_41 : decode cX0_fixedWord 41 = .ok (.areturn, 1) := by decide +kernel
theorem dX0_fixedWord_42 : decode cX0_fixedWord 42 = .ok (.iinc 1 1, 3) := by decide +kernel
theorem dX0_fixedWord_45 : decode cX0_fixedWord 45 = .ok (.goto (-33), 3) := by decide +kernel
theorem dX0_fixedWord_48 : decode cX0_fixedWord 48 = .ok (.aconst_null, 1) := by decide +kernel
theorem dX0_fixedWord_49 : decode cX0_fixedWord 49 = .ok (.areturn, 1) := by decide +kernel
theorem dX0_step_0 : decode cX0_step 0 = .ok (.aload_n 0, 1) := by decide +kernel
theorem dX0_step_1 : decode cX0_step 1 = .ok (.getfield 30, 3) := by decide +kernel
theorem dX0_step_4 : decode cX0_step 4 = .ok (.aload_n 0, 1) := by decide +kernel
theorem dX0_step_5 : decode cX0_step 5 = .ok (.getfield 26, 3) := by decide +kernel
theorem dX0_step_8 : decode cX0_step 8 = .ok (.if_icmp .ge 30, 3) := by decide +kernel
theorem dX0_step_11 : decode cX0_step 11 = .ok (.aload_n 0, 1) := by decide +kernel
theorem dX0_step_12 : decode cX0_step 12 = .ok (.getfield 9, 3) := by decide +kernel
theorem dX0_step_15 : decode cX0_step 15 = .ok (.aload_n 0, 1) := by decide +kernel
theorem dX0_step_16 : decode cX0_step 16 = .ok (.getfield 30, 3) := by decide +kernel
theorem dX0_step_19 : decode cX0_step 19 = .ok (.baload, 1) := by decide +kernel
theorem dX0_step_20 : decode cX0_step 20 = .ok (.bipush 32, 2) := by decide +kernel
theorem dX0_step_22 : decode cX0_step 22 = .ok (.if_icmp .ne 16, 3) := by decide +kernel
theorem dX0_step_25 : decode cX0_step 25 = .ok (.aload_n 0, 1) := by decide +kernel
theorem dX0_step_26 : decode cX0_step 26 = .ok (.dup, 1) := by decide +kernel
theorem dX0_step_27 : decode cX0_step 27 = .ok (.getfield 30, 3) := by decide +kernel
theorem dX0_step_30 : decode cX0_step 30 = .ok (.iconst 1, 1) := by decide +kernel
theorem dX0_step_31 : decode cX0_step 31 = .ok (.iadd, 1) := by decide +kernel
theorem dX0_step_32 : decode cX0_step 32 = .ok (.putfield 30, 3) := by decide +kernel
theorem dX0_step_35 : decode cX0_step 35 = .ok (.goto (-35), 3) := by decide +kernel
theorem dX0_step_38 : decode cX0_step 38 = .ok (.aload_n 0, 1) := by decide +kernel
theorem dX0_step_39 : decode cX0_step 39 = .ok (.aload_n 0, 1) := by decide +kernel
theorem dX0_step_40 : decode cX0_step 40 = .ok (.getfield 30, 3) := by decide +kernel
theorem dX0_step_43 : decode cX0_step 43 = .ok (.putfield 36, 3) := by decide +kernel
theorem dX0_step_46 : decode cX0_step 46 = .ok (.aload_n 0, 1) := by decide +kernel
theorem dX0_step_47 : decode cX0_step 47 = .ok (.getfield 30, 3) := by decide +kernel
theorem dX0_step_50 : decode cX0_step 50 = .ok (.aload_n 0, 1) := by decide +kernel
theorem dX0_step_51 : decode cX0_step 51 = .ok (.getfield 26, 3) := by decide +kernel
theorem dX0_step_54 : decode cX0_step 54 = .ok (.if_icmp .lt 11, 3) := by decide +kernel
theorem dX0_step_57 : decode cX0_step 57 = .ok (.aload_n 0, 1) := by decide +kernel
theorem dX0_step_58 : decode cX0_step 58 = .ok (.iconst 0, 1) := by decide +kernel
theorem dX0_step_59 : decode cX0_step 59 = .ok (.putfield 39, 3) := by decide +kernel
theorem dX0_step_62 : decode cX0_step 62 = .ok (.goto 80, 3) := by decide +kernel
theorem dX0_step_65 : decode cX0_step 65 = .ok (.aload_n 0, 1) := by decide +kernel
theorem dX0_step_66 : decode cX0_step 66 = .ok (.getfield 9, 3) := by decide +kernel
theorem dX0_step_69 : decode cX0_step 69 = .ok (.aload_n 0, 1) := by decide +kernel
theorem dX0_step_70 : decode cX0_step 70 = .ok (.getfield 30, 3) := by decide +kernel
theorem dX0_step_73 : decode cX0_step 73 = .ok (.baload, 1) := by decide +kernel
theorem dX0_step_74 : decode cX0_step 74 = .ok (.invokestatic 183, 3) := by decide +kernel
theorem dX0_step_77 : decode cX0_step 77 = .ok (.ifCond .eq 10, 3) := by decide +kernel
theorem dX0_step_80 : decode cX0_step 80 = .ok (.aload_n 0, 1) := by decide +kernel
theorem dX0_step_81 : decode cX0_step 81 = .ok (.invokevirtual 187, 3) := by decide +kernel
theorem dX0_step_84 : decode cX0_step 84 = .ok (.goto 58, 3) := by decide +kernel
theorem dX0_step_87 : decode cX0_step 87 = .ok (.aload_n 0, 1) := by decide +kernel
theorem dX0_step_88 : decode cX0_step 88 = .ok (.getfield 9, 3) := by decide +kernel
theorem dX0_step_91 : decode cX0_step 91 = .ok (.aload_n 0, 1) := by decide +kernel
theorem dX0_step_92 : decode cX0_step 92 = .ok (.getfield 30, 3) := by decide +kernel
theorem dX0_step_95 : decode cX0_step 95 = .ok (.baload, 1) := by decide +kernel
theorem dX0_step_96 : decode cX0_step 96 = .ok (.invokestatic 190, 3) := by decide +kernel
theorem dX0_step_99 : decode cX0_step 99 = .ok (.ifCond .eq 10, 3) := by decide +kernel
theorem dX0_step_102 : decode cX0_step 102 = .ok (.aload_n 0, 1) := by decide +kernel
theorem dX0_step_103 : decode cX0_step 103 = .ok (.invokevirtual 193, 3) := by decide +kernel
theorem dX0_step_106 : decode cX0_step 106 = .ok (.goto 36, 3) := by decide +kernel
theorem dX0_step_109 : decode cX0_step 109 = .ok (.aload_n 0, 1) := by decide +kernel
theorem dX0_step_110 : decode cX0_step 110 = .ok (.aload_n 0, 1) := by decide +kernel
theorem dX0_step_111 : decode cX0_step 111 = .ok (.getfield 9, 3) := by decide +kernel
theorem dX0_step_114 : decode cX0_step 114 = .ok (.aload_n 0, 1) := by decide +kernel
theorem dX0_step_115 : decode cX0_step 115 = .ok (.getfield 30, 3) := by decide +kernel
theorem dX0_step_118 : decode cX0_step 118 = .ok (.baload, 1) := by decide +kernel
theorem dX0_step_119 : decode cX0_step 119 = .ok (.bipush 59, 2) := by decide +kernel
theorem dX0_step_121 : decode cX0_step 121 = .ok (.if_icmp .ne 7, 3) := by decide +kernel
theorem dX0_step_124 : decode cX0_step 124 = .ok (.iconst 3, 1) := by decide +kernel
theorem dX0_step_125 : decode cX0_step 125 = .ok (.goto 4, 3) := by decide +kernel
theorem dX0_step_128 : decode cX0_step 128 = .ok (.iconst 4, 1) := by decide +kernel
theorem dX0_step_129 : decode cX0_step 129 = .ok (.putfield 39, 3) := by decide +kernel
theorem dX0_step_132 : decode cX0_step 132 = .ok (.aload_n 0, 1) := by decide +kernel
theorem dX0_step_133 : decode cX0_step 133 = .ok (.dup, 1) := by decide +kernel
theorem dX0_step_134 : decode cX0_step 134 = .ok (.getfield 30, 3) := by decide +kernel
theorem dX0_step_137 : decode cX0_step 137 = .ok (.iconst 1, 1) := by decide +kernel
theorem dX0_step_138 : decode cX0_step 138 = .ok (.iadd, 1) := by decide +kernel
theorem dX0_step_139 : decode cX0_step 139 = .ok (.putfield 30, 3) := by decide +kernel
theorem dX0_step_142 : decode cX0_step 142 = .ok (.return_, 1) := by decide +kernel
theorem dX0_stepLetters_0 : decode cX0_stepLetters 0 = .ok (.aload_n 0, 1) := by decide +kernel
theorem dX0_stepLetters_1 : decode cX0_stepLetters 1 = .ok (.lconst 0, 1) := by decide +kernel
theorem dX0_stepLetters_2 : decode cX0_stepLetters 2 = .ok (.putfield 45, 3) := by decide +kernel
theorem dX0_stepLetters_5 : decode cX0_stepLetters 5 = .ok (.aload_n 0, 1) := by decide +kernel
theorem dX0_stepLetters_6 : decode cX0_stepLetters 6 = .ok (.iconst 0, 1) := by decide +kernel
theorem dX0_stepLetters_7 : decode cX0_stepLetters 7 = .ok (.putfield 42, 3) := by decide +kernel
theorem dX0_stepLetters_10 : decode cX0_stepLetters 10 = .ok (.aload_n 0, 1) := by decide +kernel
theorem dX0_stepLetters_11 : decode cX0_stepLetters 11 = .ok (.getfield 30, 3) := by decide +kernel
theorem dX0_stepLetters_14 : decode cX0_stepLetters 14 = .ok (.aload_n 0, 1) := by decide +kernel
theorem dX0_stepLetters_15 : decode cX0_stepLetters 15 = .ok (.getfield 26, 3) := by decide +kernel
theorem dX0_stepLetters_18 : decode cX0_stepLetters 18 = .ok (.if_icmp .ge 81, 3) := by decide +kernel
theorem dX0_stepLetters_21 : decode cX0_stepLetters 21 = .ok (.aload_n 0, 1) := by decide +kernel
theorem dX0_stepLetters_22 : decode cX0_stepLetters 22 = .ok (.getfield 9, 3) := by decide +kernel
theorem dX0_stepLetters_25 : decode cX0_stepLetters 25 = .ok (.aload_n 0, 1) := by decide +kernel
theorem dX0_stepLetters_26 : decode cX0_stepLetters 26 = .ok (.getfield 30, 3) := by decide +kernel
theorem dX0_stepLetters_29 : decode cX0_stepLetters 29 = .ok (.baload, 1) := by decide +kernel
theorem dX0_stepLetters_30 : decode cX0_stepLetters 30 = .ok (.invokestatic 183, 3) := by decide +kernel
theorem dX0_stepLetters_33 : decode cX0_stepLetters 33 = .ok (.ifCond .eq 66, 3) := by decide +kernel
theorem dX0_stepLetters_36 : decode cX0_stepLetters 36 = .ok (.aload_n 0, 1) := by decide +kernel
theorem dX0_stepLetters_37 : decode cX0_stepLetters 37 = .ok (.getfield 42, 3) := by decide +kernel
theorem dX0_stepLetters_40 : decode cX0_stepLetters 40 = .ok (.bipush 7, 2) := by decide +kernel
theorem dX0_stepLetters_42 : decode cX0_stepLetters 42 = .ok (.if_icmp .ge 34, 3) := by decide +kernel
theorem dX0_stepLetters_45 : decode cX0_stepLetters 45 = .ok (.aload_n 0, 1) := by decide +kernel
theorem dX0_stepLetters_46 : decode cX0_stepLetters 46 = .ok (.dup, 1) := by decide +kernel
theorem dX0_stepLetters_47 : decode cX0_stepLetters 47 = .ok (.getfield 45, 3) := by decide +kernel
theorem dX0_stepLetters_50 : decode cX0_stepLetters 50 = .ok (.aload_n 0, 1) := by decide +kernel
theorem dX0_stepLetters_51 : decode cX0_stepLetters 51 = .ok (.getfield 9, 3) := by decide +kernel
theorem dX0_stepLetters_54 : decode cX0_stepLetters 54 = .ok (.aload_n 0, 1) := by decide +kernel
theorem dX0_stepLetters_55 : decode cX0_stepLetters 55 = .ok (.getfield 30, 3) := by decide +kernel
theorem dX0_stepLetters_58 : decode cX0_stepLetters 58 = .ok (.baload, 1) := by decide +kernel
theorem dX0_stepLetters_59 : decode cX0_stepLetters 59 = .ok (.bipush 97, 2) := by decide +kernel
theorem dX0_stepLetters_61 : decode cX0_stepLetters 61 = .ok (.isub, 1) := by decide +kernel
theorem dX0_stepLetters_62 : decode cX0_stepLetters 62 = .ok (.iconst 1, 1) := by decide +kernel
theorem dX0_stepLetters_63 : decode cX0_stepLetters 63 = .ok (.iadd, 1) := by decide +kernel
theorem dX0_stepLetters_64 : decode cX0_stepLetters 64 = .ok (.i2l, 1) := by decide +kernel
theorem dX0_stepLetters_65 : decode cX0_stepLetters 65 = .ok (.iconst 5, 1) := by decide +kernel
theorem dX0_stepLetters_66 : decode cX0_stepLetters 66 = .ok (.aload_n 0, 1) := by decide +kernel
theorem dX0_stepLetters_67 : decode cX0_stepLetters 67 = .ok (.getfield 42, 3) := by decide +kernel
theorem dX0_stepLetters_70 : decode cX0_stepLetters 70 = .ok (.imul, 1) := by decide +kernel
theorem dX0_stepLetters_71 : decode cX0_stepLetters 71 = .ok (.lshl, 1) := by decide +kernel
theorem dX0_stepLetters_72 : decode cX0_stepLetters 72 = .ok (.lor, 1) := by decide +kernel
theorem dX0_stepLetters_73 : decode cX0_stepLetters 73 = .ok (.putfield 45, 3) := by decide +kernel
theorem dX0_stepLetters_76 : decode cX0_stepLetters 76 = .ok (.aload_n 0, 1) := by decide +kernel
theorem dX0_stepLetters_77 : decode cX0_stepLetters 77 = .ok (.dup, 1) := by decide +kernel
theorem dX0_stepLetters_78 : decode cX0_stepLetters 78 = .ok (.getfield 42, 3) := by decide +kernel
theorem dX0_stepLetters_81 : decode cX0_stepLetters 81 = .ok (.iconst 1, 1) := by decide +kernel
theorem dX0_stepLetters_82 : decode cX0_stepLetters 82 = .ok (.iadd, 1) := by decide +kernel
theorem dX0_stepLetters_83 : decode cX0_stepLetters 83 = .ok (.putfield 42, 3) := by decide +kernel
theorem dX0_stepLetters_86 : decode cX0_stepLetters 86 = .ok (.aload_n 0, 1) := by decide +kernel
theorem dX0_stepLetters_87 : decode cX0_stepLetters 87 = .ok (.dup, 1) := by decide +kernel
theorem dX0_stepLetters_88 : decode cX0_stepLetters 88 = .ok (.getfield 30, 3) := by decide +kernel
theorem dX0_stepLetters_91 : decode cX0_stepLetters 91 = .ok (.iconst 1, 1) := by decide +kernel
theorem dX0_stepLetters_92 : decode cX0_stepLetters 92 = .ok (.iadd, 1) := by decide +kernel
theorem dX0_stepLetters_93 : decode cX0_stepLetters 93 = .ok (.putfield 30, 3) := by decide +kernel
theorem dX0_stepLetters_96 : decode cX0_stepLetters 96 = .ok (.goto (-86), 3) := by decide +kernel
theorem dX0_stepLetters_99 : decode cX0_stepLetters 99 = .ok (.aload_n 0, 1) := by decide +kernel
theorem dX0_stepLetters_100 : decode cX0_stepLetters 100 = .ok (.aload_n 0, 1) := by decide +kernel
theorem dX0_stepLetters_101 : decode cX0_stepLetters 101 = .ok (.getfield 42, 3) := by decide +kernel
theorem dX0_stepLetters_104 : decode cX0_stepLetters 104 = .ok (.bipush 7, 2) := by decide +kernel
theorem dX0_stepLetters_106 : decode cX0_stepLetters 106 = .ok (.if_icmp .gt 7, 3) := by decide +kernel
theorem dX0_stepLetters_109 : decode cX0_stepLetters 109 = .ok (.iconst 1, 1) := by decide +kernel
theorem dX0_stepLetters_110 : decode cX0_stepLetters 110 = .ok (.goto 4, 3) := by decide +kernel
theorem dX0_stepLetters_113 : decode cX0_stepLetters 113 = .ok (.iconst 4, 1) := by decide +kernel
theorem dX0_stepLetters_114 : decode cX0_stepLetters 114 = .ok (.putfield 39, 3) := by decide +kernel
theorem dX0_stepLetters_117 : decode cX0_stepLetters 117 = .ok (.return_, 1) := by decide +kernel
theorem dX0_stepDigits_0 : decode cX0_stepDigits 0 = .ok (.aload_n 0, 1) := by decide +kernel
theorem dX0_stepDigits_1 : decode cX0_stepDigits 1 = .ok (.iconst 0, 1) := by decide +kernel
theorem dX0_stepDigits_2 : decode cX0_stepDigits 2 = .ok (.putfield 49, 3) := by decide +kernel
theorem dX0_stepDigits_5 : decode cX0_stepDigits 5 = .ok (.aload_n 0, 1) := by decide +kernel
theorem dX0_stepDigits_6 : decode cX0_stepDigits 6 = .ok (.iconst 0, 1) := by decide +kernel
theorem dX0_stepDigits_7 : decode cX0_stepDigits 7 = .ok (.putfield 42, 3) := by decide +kernel
theorem dX0_stepDigits_10 : decode cX0_stepDigits 10 = .ok (.aload_n 0, 1) := by decide +kernel
theorem dX0_stepDigits_11 : decode cX0_stepDigits 11 = .ok (.getfield 30, 3) := by decide +kernel
theorem dX0_stepDigits_14 : decode cX0_stepDigits 14 = .ok (.aload_n 0, 1) := by decide +kernel
theorem dX0_stepDigits_15 : decode cX0_stepDigits 15 = .ok (.getfield 26, 3) := by decide +kernel
theorem dX0_stepDigits_18 : decode cX0_stepDigits 18 = .ok (.if_icmp .ge 74, 3) := by decide +kernel
theorem dX0_stepDigits_21 : decode cX0_stepDigits 21 = .ok (.aload_n 0, 1) := by decide +kernel
theorem dX0_stepDigits_22 : decode cX0_stepDigits 22 = .ok (.getfield 9, 3) := by decide +kernel
theorem dX0_stepDigits_25 : decode cX0_stepDigits 25 = .ok (.aload_n 0, 1) := by decide +kernel
theorem dX0_stepDigits_26 : decode cX0_stepDigits 26 = .ok (.getfield 30, 3) := by decide +kernel
theorem dX0_stepDigits_29 : decode cX0_stepDigits 29 = .ok (.baload, 1) := by decide +kernel
theorem dX0_stepDigits_30 : decode cX0_stepDigits 30 = .ok (.invokestatic 190, 3) := by decide +kernel
theorem dX0_stepDigits_33 : decode cX0_stepDigits 33 = .ok (.ifCond .eq 59, 3) := by decide +kernel
theorem dX0_stepDigits_36 : decode cX0_stepDigits 36 = .ok (.aload_n 0, 1) := by decide +kernel
theorem dX0_stepDigits_37 : decode cX0_stepDigits 37 = .ok (.getfield 42, 3) := by decide +kernel
theorem dX0_stepDigits_40 : decode cX0_stepDigits 40 = .ok (.bipush 7, 2) := by decide +kernel
theorem dX0_stepDigits_42 : decode cX0_stepDigits 42 = .ok (.if_icmp .ge 27, 3) := by decide +kernel
theorem dX0_stepDigits_45 : decode cX0_stepDigits 45 = .ok (.aload_n 0, 1) := by decide +kernel
theorem dX0_stepDigits_46 : decode cX0_stepDigits 46 = .ok (.aload_n 0, 1) := by decide +kernel
theorem dX0_stepDigits_47 : decode cX0_stepDigits 47 = .ok (.getfield 49, 3) := by decide +kernel
theorem dX0_stepDigits_50 : decode cX0_stepDigits 50 = .ok (.bipush 10, 2) := by decide +kernel
theorem dX0_stepDigits_52 : decode cX0_stepDigits 52 = .ok (.imul, 1) := by decide +kernel
theorem dX0_stepDigits_53 : decode cX0_stepDigits 53 = .ok (.aload_n 0, 1) := by decide +kernel
theorem dX0_stepDigits_54 : decode cX0_stepDigits 54 = .ok (.getfield 9, 3) := by decide +kernel
theorem dX0_stepDigits_57 : decode cX0_stepDigits 57 = .ok (.aload_n 0, 1) := by decide +kernel
theorem dX0_stepDigits_58 : decode cX0_stepDigits 58 = .ok (.getfield 30, 3) := by decide +kernel
theorem dX0_stepDigits_61 : decode cX0_stepDigits 61 = .ok (.baload, 1) := by decide +kernel
theorem dX0_stepDigits_62 : decode cX0_stepDigits 62 = .ok (.iadd, 1) := by decide +kernel
theorem dX0_stepDigits_63 : decode cX0_stepDigits 63 = .ok (.bipush 48, 2) := by decide +kernel
theorem dX0_stepDigits_65 : decode cX0_stepDigits 65 = .ok (.isub, 1) := by decide +kernel
theorem dX0_stepDigits_66 : decode cX0_stepDigits 66 = .ok (.putfield 49, 3) := by decide +kernel
theorem dX0_stepDigits_69 : decode cX0_stepDigits 69 = .ok (.aload_n 0, 1) := by decide +kernel
theorem dX0_stepDigits_70 : decode cX0_stepDigits 70 = .ok (.dup, 1) := by decide +kernel
theorem dX0_stepDigits_71 : decode cX0_stepDigits 71 = .ok (.getfield 42, 3) := by decide +kernel
theorem dX0_stepDigits_74 : decode cX0_stepDigits 74 = .ok (.iconst 1, 1) := by decide +kernel
theorem dX0_stepDigits_75 : decode cX0_stepDigits 75 = .ok (.iadd, 1) := by decide +kernel
theorem dX0_stepDigits_76 : decode cX0_stepDigits 76 = .ok (.putfield 42, 3) := by decide +kernel
theorem dX0_stepDigits_79 : decode cX0_stepDigits 79 = .ok (.aload_n 0, 1) := by decide +kernel
theorem dX0_stepDigits_80 : decode cX0_stepDigits 80 = .ok (.dup, 1) := by decide +kernel
theorem dX0_stepDigits_81 : decode cX0_stepDigits 81 = .ok (.getfield 30, 3) := by decide +kernel
theorem dX0_stepDigits_84 : decode cX0_stepDigits 84 = .ok (.iconst 1, 1) := by decide +kernel
theorem dX0_stepDigits_85 : decode cX0_stepDigits 85 = .ok (.iadd, 1) := by decide +kernel
theorem dX0_stepDigits_86 : decode cX0_stepDigits 86 = .ok (.putfield 30, 3) := by decide +kernel
theorem dX0_stepDigits_89 : decode cX0_stepDigits 89 = .ok (.goto (-79), 3) := by decide +kernel
theorem dX0_stepDigits_92 : decode cX0_stepDigits 92 = .ok (.aload_n 0, 1) := by decide +kernel
theorem dX0_stepDigits_93 : decode cX0_stepDigits 93 = .ok (.aload_n 0, 1) := by decide +kernel
theorem dX0_stepDigits_94 : decode cX0_stepDigits 94 = .ok (.getfield 42, 3) := by decide +kernel
theorem dX0_stepDigits_97 : decode cX0_stepDigits 97 = .ok (.bipush 7, 2) := by decide +kernel
theorem dX0_stepDigits_99 : decode cX0_stepDigits 99 = .ok (.if_icmp .gt 7, 3) := by decide +kernel
theorem dX0_stepDigits_102 : decode cX0_stepDigits 102 = .ok (.iconst 2, 1) := by decide +kernel
theorem dX0_stepDigits_103 : decode cX0_stepDigits 103 = .ok (.goto 4, 3) := by decide +kernel
theorem dX0_stepDigits_106 : decode cX0_stepDigits 106 = .ok (.iconst 4, 1) := by decide +kernel
theorem dX0_stepDigits_107 : decode cX0_stepDigits 107 = .ok (.putfield 39, 3) := by decide +kernel
theorem dX0_stepDigits_110 : decode cX0_stepDigits 110 = .ok (.return_, 1) := by decide +kernel
theorem dX0_isLetter_0 : decode cX0_isLetter 0 = .ok (.iload_n 0, 1) := by decide +kernel
theorem dX0_isLetter_1 : decode cX0_isLetter 1 = .ok (.bipush 97, 2) := by decide +kernel
theorem dX0_isLetter_3 : decode cX0_isLetter 3 = .ok (.if_icmp .lt 13, 3) := by decide +kernel
theorem dX0_isLetter_6 : decode cX0_isLetter 6 = .ok (.iload_n 0, 1) := by decide +kernel
theorem dX0_isLetter_7 : decode cX0_isLetter 7 = .ok (.bipush 122, 2) := by decide +kernel
theorem dX0_isLetter_9 : decode cX0_isLetter 9 = .ok (.if_icmp .gt 7, 3) := by decide +kernel
theorem dX0_isLetter_12 : decode cX0_isLetter 12 = .ok (.iconst 1, 1) := by decide +kernel
theorem dX0_isLetter_13 : decode cX0_isLetter 13 = .ok (.goto 4, 3) := by decide +kernel
theorem dX0_isLetter_16 : decode cX0_isLetter 16 = .ok (.iconst 0, 1) := by decide +kernel
theorem dX0_isLetter_17 : decode cX0_isLetter 17 = .ok (.ireturn, 1) := by decide +kernel
theorem dX0_isDigit_0 : decode cX0_isDigit 0 = .ok (.iload_n 0, 1) := by decide +kernel
theorem dX0_isDigit_1 : decode cX0_isDigit 1 = .ok (.bipush 48, 2) := by decide +kernel
theorem dX0_isDigit_3 : decode cX0_isDigit 3 = .ok (.if_icmp .lt 13, 3) := by decide +kernel
theorem dX0_isDigit_6 : decode cX0_isDigit 6 = .ok (.iload_n 0, 1) := by decide +kernel
theorem dX0_isDigit_7 : decode cX0_isDigit 7 = .ok (.bipush 57, 2) := by decide +kernel
theorem dX0_isDigit_9 : decode cX0_isDigit 9 = .ok (.if_icmp .gt 7, 3) := by decide +kernel
theorem dX0_isDigit_12 : decode cX0_isDigit 12 = .ok (.iconst 1, 1) := by decide +kernel
theorem dX0_isDigit_13 : decode cX0_isDigit 13 = .ok (.goto 4, 3) := by decide +kernel
theorem dX0_isDigit_16 : decode cX0_isDigit 16 = .ok (.iconst 0, 1) := by decide +kernel
theorem dX0_isDigit_17 : decode cX0_isDigit 17 = .ok (.ireturn, 1) := by decide +kernel
theorem dX1_init_0 : decode cX1_init 0 = .ok (.aload_n 0, 1) := by decide +kernel
theorem dX1_init_1 : decode cX1_init 1 = .ok (.invokespecial 3, 3) := by decide +kernel
theorem dX1_init_4 : decode cX1_init 4 = .ok (.aload_n 0, 1) := by decide +kernel
theorem dX1_init_5 : decode cX1_init 5 = .ok (.new 9, 3) := by decide +kernel
theorem dX1_init_8 : decode cX1_init 8 = .ok (.dup, 1) := by decide +kernel
theorem dX1_init_9 : decode cX1_init 9 = .ok (.invokespecial 11, 3) := by decide +kernel
theorem dX1_init_12 : decode cX1_init 12 = .ok (.putfield 12, 3) := by decide +kernel
theorem dX1_init_15 : decode cX1_init 15 = .ok (.aload_n 0, 1) := by decide +kernel
theorem dX1_init_16 : decode cX1_init 16 = .ok (.iconst 4, 1) := by decide +kernel
theorem dX1_init_17 : decode cX1_init 17 = .ok (.newarray .int, 2) := by decide +kernel
theorem dX1_init_19 : decode cX1_init 19 = .ok (.putfield 18, 3) := by decide +kernel
theorem dX1_init_22 : decode cX1_init 22 = .ok (.aload_n 0, 1) := by decide +kernel
theorem dX1_init_23 : decode cX1_init 23 = .ok (.bipush 16, 2) := by decide +kernel
theorem dX1_init_25 : decode cX1_init 25 = .ok (.newarray .long, 2) := by decide +kernel
theorem dX1_init_27 : decode cX1_init 27 = .ok (.putfield 22, 3) := by decide +kernel
theorem dX1_init_30 : decode cX1_init 30 = .ok (.aload_n 0, 1) := by decide +kernel
theorem dX1_init_31 : decode cX1_init 31 = .ok (.bipush 64, 2) := by decide +kernel
theorem dX1_init_33 : decode cX1_init 33 = .ok (.newarray .long, 2) := by decide +kernel
theorem dX1_init_35 : decode cX1_init 35 = .ok (.putfield 26, 3) := by decide +kernel
theorem dX1_init_38 : decode cX1_init 38 = .ok (.aload_n 0, 1) := by decide +kernel
theorem dX1_init_39 : decode cX1_init 39 = .ok (.bipush 64, 2) := by decide +kernel
theorem dX1_init_41 : decode cX1_init 41 = .ok (.newarray .long, 2) := by decide +kernel
theorem dX1_init_43 : decode cX1_init 43 = .ok (.putfield 29, 3) := by decide +kernel
theorem dX1_init_46 : decode cX1_init 46 = .ok (.aload_n 0, 1) := by decide +kernel
theorem dX1_init_47 : decode cX1_init 47 = .ok (.bipush 16, 2) := by decide +kernel
theorem dX1_init_49 : decode cX1_init 49 = .ok (.newarray .long, 2) := by decide +kernel
theorem dX1_init_51 : decode cX1_init 51 = .ok (.putfield 32, 3) := by decide +kernel
theorem dX1_init_54 : decode cX1_init 54 = .ok (.aload_n 0, 1) := by decide +kernel
theorem dX1_init_55 : decode cX1_init 55 = .ok (.iconst 0, 1) := by decide +kernel
theorem dX1_init_56 : decode cX1_init 56 = .ok (.putfield 35, 3) := by decide +kernel
theorem dX1_init_59 : decode cX1_init 59 = .ok (.return_, 1) := by decide +kernel
theorem dX1_take_0 : decode cX1_take 0 = .ok (.aload_n 0, 1) := by decide +kernel
theorem dX1_take_1 : decode cX1_take 1 = .ok (.getfield 12, 3) := by decide +kernel
theorem dX1_take_4 : decode cX1_take 4 = .ok (.aload_n 1, 1) := by decide +kernel
theorem dX1_take_5 : decode cX1_take 5 = .ok (.invokevirtual 39, 3) := by decide +kernel
theorem dX1_take_8 : decode cX1_take 8 = .ok (.return_, 1) := by decide +kernel
theorem dX1_settle_0 : decode cX1_settle 0 = .ok (.aload_n 0, 1) := by decide +kernel
theorem dX1_settle_1 : decode cX1_settle 1 = .ok (.getfield 26, 3) := by decide +kernel
theorem dX1_settle_4 : decode cX1_settle 4 = .ok (.lconst 0, 1) := by decide +kernel
theorem dX1_settle_5 : decode cX1_settle 5 = .ok (.invokestatic 43, 3) := by decide +kernel
theorem dX1_settle_8 : decode cX1_settle 8 = .ok (.aload_n 0, 1) := by decide +kernel
theorem dX1_settle_9 : decode cX1_settle 9 = .ok (.getfield 29, 3) := by decide +kernel
theorem dX1_settle_12 : decode cX1_settle 12 = .ok (.lconst 0, 1) := by decide +kernel
theorem dX1_settle_13 : decode cX1_settle 13 = .ok (.invokestatic 43, 3) := by decide +kernel
theorem dX1_settle_16 : decode cX1_settle 16 = .ok (.aload_n 0, 1) := by decide +kernel
theorem dX1_settle_17 : decode cX1_settle 17 = .ok (.getfield 22, 3) := by decide +kernel
theorem dX1_settle_20 : decode cX1_settle 20 = .ok (.lconst 0, 1) := by decide +kernel
theorem dX1_settle_21 : decode cX1_settle 21 = .ok (.invokestatic 43, 3) := by decide +kernel
theorem dX1_settle_24 : decode cX1_settle 24 = .ok (.aload_n 0, 1) := by decide +kernel
theorem dX1_settle_25 : decode cX1_settle 25 = .ok (.invokevirtual 49, 3) := by decide +kernel
theorem dX1_settle_28 : decode cX1_settle 28 = .ok (.aload_n 0, 1) := by decide +kernel
theorem dX1_settle_29 : decode cX1_settle 29 = .ok (.invokevirtual 52, 3) := by decide +kernel
theorem dX1_settle_32 : decode cX1_settle 32 = .ok (.aload_n 0, 1) := by decide +kernel
theorem dX1_settle_33 : decode cX1_settle 33 = .ok (.invokevirtual 55, 3) := by decide +kernel
theorem dX1_settle_36 : decode cX1_settle 36 = .ok (.aload_n 0, 1) := by decide +kernel
theorem dX1_settle_37 : decode cX1_settle 37 = .ok (.invokevirtual 58, 3) := by decide +kernel
theorem dX1_settle_40 : decode cX1_settle 40 = .ok (.iconst 0, 1) := by decide +kernel
theorem dX1_settle_41 : decode cX1_settle 41 = .ok (.istore_n 1, 1) := by decide +kernel
theorem dX1_settle_42 : decode cX1_settle 42 = .ok (.iload_n 1, 1) := by decide +kernel
theorem dX1_settle_43 : decode cX1_settle 43 = .ok (.aload_n 0, 1) := by decide +kernel
theorem dX1_settle_44 : decode cX1_settle 44 = .ok (.getfield 12, 3) := by decide +kernel
theorem dX1_settle_47 : decode cX1_settle 47 = .ok (.getfield 61, 3) := by decide +kernel
theorem dX1_settle_50 : decode cX1_settle 50 = .ok (.if_icmp .ge 43, 3) := by decide +kernel
theorem dX1_settle_53 : decode cX1_settle 53 = .ok (.aload_n 0, 1) := by decide +kernel
theorem dX1_settle_54 : decode cX1_settle 54 = .ok (.getfield 12, 3) := by decide +kernel
theorem dX1_settle_57 : decode cX1_settle 57 = .ok (.iload_n 1, 1) := by decide +kernel
theorem dX1_settle_58 : decode cX1_settle 58 = .ok (.iconst 5, 1) := by decide +kernel
theorem dX1_settle_59 : decode cX1_settle 59 = .ok (.invokevirtual 64, 3) := by decide +kernel
theorem dX1_settle_62 : decode cX1_settle 62 = .ok (.iconst 1, 1) := by decide +kernel
theorem dX1_settle_63 : decode cX1_settle 63 = .ok (.if_icmp .ne 11, 3) := by decide +kernel
theorem dX1_settle_66 : decode cX1_settle 66 = .ok (.aload_n 0, 1) := by decide +kernel
theorem dX1_settle_67 : decode cX1_settle 67 = .ok (.iload_n 1, 1) := by decide +kernel
theorem dX1_settle_68 : decode cX1_settle 68 = .ok (.invokevirtual 68, 3) := by decide +kernel
theorem dX1_settle_71 : decode cX1_settle 71 = .ok (.goto 16, 3) := by decide +kernel
theorem dX1_settle_74 : decode cX1_settle 74 = .ok (.aload_n 0, 1) := by decide +kernel
theorem dX1_settle_75 : decode cX1_settle 75 = .ok (.iload_n 1, 1) := by decide +kernel
theorem dX1_settle_76 : decode cX1_settle 76 = .ok (.bipush 6, 2) := by decide +kernel
theorem dX1_settle_78 : decode cX1_settle 78 = .ok (.invokevirtual 72, 3) := by decide +kernel
theorem dX1_settle_81 : decode cX1_settle 81 = .ok (.aload_n 0, 1) := by decide +kernel
theorem dX1_settle_82 : decode cX1_settle 82 = .ok (.iload_n 1, 1) := by decide +kernel
theorem dX1_settle_83 : decode cX1_settle 83 = .ok (.iconst 5, 1) := by decide +kernel
theorem dX1_settle_84 : decode cX1_settle 84 = .ok (.invokevirtual 72, 3) := by decide +kernel
theorem dX1_settle_87 : decode cX1_settle 87 = .ok (.iinc 1 1, 3) := by decide +kernel
theorem dX1_settle_90 : decode cX1_settle 90 = .ok (.goto (-48), 3) := by decide +kernel
theorem dX1_settle_93 : decode cX1_settle 93 = .ok (.return_, 1) := by decide +kernel
theorem dX1_cut_0 : decode cX1_cut 0 = .ok (.lload_n 2, 1) := by decide +kernel
theorem dX1_cut_1 : decode cX1_cut 1 = .ok (.lconst 0, 1) := by decide +kernel
theorem dX1_cut_2 : decode cX1_cut 2 = .ok (.lcmp, 1) := by decide +kernel
theorem dX1_cut_3 : decode cX1_cut 3 = .ok (.ifCond .ne 7, 3) := by decide +kernel
theorem dX1_cut_6 : decode cX1_cut 6 = .ok (.lconst 0, 1) := by decide +kernel
theorem dX1_cut_7 : decode cX1_cut 7 = .ok (.goto 6, 3) := by decide +kernel
theorem dX1_cut_10 : decode cX1_cut 10 = .ok (.lload_n 0, 1) := by decide +kernel
theorem dX1_cut_11 : decode cX1_cut 11 = .ok (.lload_n 2, 1) := by decide +kernel
theorem dX1_cut_12 : decode cX1_cut 12 = .ok (.ldiv, 1) := by decide +kernel
theorem dX1_cut_13 : decode cX1_cut 13 = .ok (.lreturn, 1) := by decide +kernel
theorem dX1_weigh_0 : decode cX1_weigh 0 = .ok (.aload_n 0, 1) := by decide +kernel
theorem dX1_weigh_1 : decode cX1_weigh 1 = .ok (.iconst 0, 1) := by decide +kernel
theorem dX1_weigh_2 : decode cX1_weigh 2 = .ok (.putfield 35, 3) := by decide +kernel
theorem dX1_weigh_5 : decode cX1_weigh 5 = .ok (.iconst 0, 1) := by decide +kernel
theorem dX1_weigh_6 : decode cX1_weigh 6 = .ok (.istore_n 1, 1) := by decide +kernel
theorem dX1_weigh_7 : decode cX1_weigh 7 = .ok (.iload_n 1, 1) := by decide +kernel
theorem dX1_weigh_8 : decode cX1_weigh 8 = .ok (.aload_n 0, 1) := by decide +kernel
theorem dX1_weigh_9 : decode cX1_weigh 9 = .ok (.getfield 12, 3) := by decide +kernel
theorem dX1_weigh_12 : decode cX1_weigh 12 = .ok (.getfield 61, 3) := by decide +kernel
theorem dX1_weigh_15 : decode cX1_weigh 15 = .ok (.if_icmp .ge 38, 3) := by decide +kernel
theorem dX1_weigh_18 : decode cX1_weigh 18 = .ok (.aload_n 0, 1) := by decide +kernel
theorem dX1_weigh_19 : decode cX1_weigh 19 = .ok (.getfield 18, 3) := by decide +kernel
theorem dX1_weigh_22 : decode cX1_weigh 22 = .ok (.iload_n 1, 1) := by decide +kernel
theorem dX1_weigh_23 : decode cX1_weigh 23 = .ok (.aload_n 0, 1) := by decide +kernel
theorem dX1_weigh_24 : decode cX1_weigh 24 = .ok (.getfield 12, 3) := by decide +kernel
theorem dX1_weigh_27 : decode cX1_weigh 27 = .ok (.iload_n 1, 1) := by decide +kernel
theorem dX1_weigh_28 : decode cX1_weigh 28 = .ok (.invokevirtual 76, 3) := by decide +kernel
theorem dX1_weigh_31 : decode cX1_weigh 31 = .ok (.iastore, 1) := by decide +kernel
theorem dX1_weigh_32 : decode cX1_weigh 32 = .ok (.aload_n 0, 1) := by decide +kernel
theorem dX1_weigh_33 : decode cX1_weigh 33 = .ok (.dup, 1) := by decide +kernel
theorem dX1_weigh_34 : decode cX1_weigh 34 = .ok (.getfield 35, 3) := by decide +kernel
theorem dX1_weigh_37 : decode cX1_weigh 37 = .ok (.aload_n 0, 1) := by decide +kernel
theorem dX1_weigh_38 : decode cX1_weigh 38 = .ok (.getfield 18, 3) := by decide +kernel
theorem dX1_weigh_41 : decode cX1_weigh 41 = .ok (.iload_n 1, 1) := by decide +kernel
theorem dX1_weigh_42 : decode cX1_weigh 42 = .ok (.iaload, 1) := by decide +kernel
theorem dX1_weigh_43 : decode cX1_weigh 43 = .ok (.iadd, 1) := by decide +kernel
theorem dX1_weigh_44 : decode cX1_weigh 44 = .ok (.putfield 35, 3) := by decide +kernel
theorem dX1_weigh_47 : decode cX1_weigh 47 = .ok (.iinc 1 1, 3) := by decide +kernel
theorem dX1_weigh_50 : decode cX1_weigh 50 = .ok (.goto (-43), 3) := by decide +kernel
theorem dX1_weigh_53 : decode cX1_weigh 53 = .ok (.return_, 1) := by decide +kernel
theorem dX1_partOf_0 : decode cX1_partOf 0 = .ok (.lload_n 2, 1) := by decide +kernel
theorem dX1_partOf_1 : decode cX1_partOf 1 = .ok (.aload_n 0, 1) := by decide +kernel
theorem dX1_partOf_2 : decode cX1_partOf 2 = .ok (.getfield 18, 3) := by decide +kernel
theorem dX1_partOf_5 : decode cX1_partOf 5 = .ok (.iload_n 1, 1) := by decide +kernel
theorem dX1_partOf_6 : decode cX1_partOf 6 = .ok (.iaload, 1) := by decide +kernel
theorem dX1_partOf_7 : decode cX1_partOf 7 = .ok (.i2l, 1) := by decide +kernel
theorem dX1_partOf_8 : decode cX1_partOf 8 = .ok (.lmul, 1) := by decide +kernel
theorem dX1_partOf_9 : decode cX1_partOf 9 = .ok (.aload_n 0, 1) := by decide +kernel
theorem dX1_partOf_10 : decode cX1_partOf 10 = .ok (.getfield 35, 3) := by decide +kernel
theorem dX1_partOf_13 : decode cX1_partOf 13 = .ok (.i2l, 1) := by decide +kernel
theorem dX1_partOf_14 : decode cX1_partOf 14 = .ok (.invokestatic 80, 3) := by decide +kernel
theorem dX1_partOf_17 : decode cX1_partOf 17 = .ok (.lreturn, 1) := by decide +kernel
theorem dX1_oweClaims_0 : decode cX1_oweClaims 0 = .ok (.iconst 0, 1) := by decide +kernel
theorem dX1_oweClaims_1 : decode cX1_oweClaims 1 = .ok (.istore_n 1, 1) := by decide +kernel
theorem dX1_oweClaims_2 : decode cX1_oweClaims 2 = .ok (.iload_n 1, 1) := by decide +kernel
theorem dX1_oweClaims_3 : decode cX1_oweClaims 3 = .ok (.aload_n 0, 1) := by decide +kernel
theorem dX1_oweClaims_4 : decode cX1_oweClaims 4 = .ok (.getfield 12, 3) := by decide +kernel
theorem dX1_oweClaims_7 : decode cX1_oweClaims 7 = .ok (.getfield 61, 3) := by decide +kernel
theorem dX1_oweClaims_10 : decode cX1_oweClaims 10 = .ok (.if_icmp .ge 47, 3) := by decide +kernel
theorem dX1_oweClaims_13 : decode cX1_oweClaims 13 = .ok (.iconst 0, 1) := by decide +kernel
theorem dX1_oweClaims_14 : decode cX1_oweClaims 14 = .ok (.istore_n 2, 1) := by decide +kernel
theorem dX1_oweClaims_15 : decode cX1_oweClaims 15 = .ok (.iload_n 2, 1) := by decide +kernel
theorem dX1_oweClaims_16 : decode cX1_oweClaims 16 = .ok (.aload_n 0, 1) := by decide +kernel
theorem dX1_oweClaims_17 : decode cX1_oweClaims 17 = .ok (.getfield 12, 3) := by decide +kernel
theorem dX1_oweClaims_20 : decode cX1_oweClaims 20 = .ok (.getfield 84, 3) := by decide +kernel
theorem dX1_oweClaims_23 : decode cX1_oweClaims 23 = .ok (.if_icmp .ge 28, 3) := by decide +kernel
theorem dX1_oweClaims_26 : decode cX1_oweClaims 26 = .ok (.aload_n 0, 1) := by decide +kernel
theorem dX1_oweClaims_27 : decode cX1_oweClaims 27 = .ok (.getfield 26, 3) := by decide +kernel
theorem dX1_oweClaims_30 : decode cX1_oweClaims 30 = .ok (.iload_n 1, 1) := by decide +kernel
theorem dX1_oweClaims_31 : decode cX1_oweClaims 31 = .ok (.bipush 16, 2) := by decide +kernel
theorem dX1_oweClaims_33 : decode cX1_oweClaims 33 = .ok (.imul, 1) := by decide +kernel
theorem dX1_oweClaims_34 : decode cX1_oweClaims 34 = .ok (.iconst 4, 1) := by decide +kernel
theorem dX1_oweClaims_35 : decode cX1_oweClaims 35 = .ok (.iadd, 1) := by decide +kernel
theorem dX1_oweClaims_36 : decode cX1_oweClaims 36 = .ok (.iload_n 2, 1) := by decide +kernel
theorem dX1_oweClaims_37 : decode cX1_oweClaims 37 = .ok (.iadd, 1) := by decide +kernel
theorem dX1_oweClaims_38 : decode cX1_oweClaims 38 = .ok (.aload_n 0, 1) := by decide +kernel
theorem dX1_oweClaims_39 : decode cX1_oweClaims 39 = .ok (.iload_n 1, 1) := by decide +kernel
theorem dX1_oweClaims_40 : decode cX1_oweClaims 40 = .ok (.iload_n 2, 1) := by decide +kernel
theorem dX1_oweClaims_41 : decode cX1_oweClaims 41 = .ok (.invokevirtual 87, 3) := by decide +kernel
theorem dX1_oweClaims_44 : decode cX1_oweClaims 44 = .ok (.lastore, 1) := by decide +kernel
theorem dX1_oweClaims_45 : decode cX1_oweClaims 45 = .ok (.iinc 2 1, 3) := by decide +kernel
theorem dX1_oweClaims_48 : decode cX1_oweClaims 48 = .ok (.goto (-33), 3) := by decide +kernel
theorem dX1_oweClaims_51 : decode cX1_oweClaims 51 = .ok (.iinc 1 1, 3) := by decide +kernel
theorem dX1_oweClaims_54 : decode cX1_oweClaims 54 = .ok (.goto (-52), 3) := by decide +kernel
theorem dX1_oweClaims_57 : decode cX1_oweClaims 57 = .ok (.return_, 1) := by decide +kernel
theorem dX1_debt_0 : decode cX1_debt 0 = .ok (.aload_n 0, 1) := by decide +kernel
theorem dX1_debt_1 : decode cX1_debt 1 = .ok (.getfield 12, 3) := by decide +kernel
theorem dX1_debt_4 : decode cX1_debt 4 = .ok (.iload_n 2, 1) := by decide +kernel
theorem dX1_debt_5 : decode cX1_debt 5 = .ok (.invokevirtual 91, 3) := by decide +kernel
theorem dX1_debt_8 : decode cX1_debt 8 = .ok (.bipush (-2), 2) := by decide +kernel
theorem dX1_debt_10 : decode cX1_debt 10 = .ok (.if_icmp .ne 5, 3) := by decide +kernel
theorem dX1_debt_13 : decode cX1_debt 13 = .ok (.lconst 0, 1) := by decide +kernel
theorem dX1_debt_14 : decode cX1_debt 14 = .ok (.lreturn, 1) := by decide +kernel
theorem dX1_debt_15 : decode cX1_debt 15 = .ok (.aload_n 0, 1) := by decide +kernel
theorem dX1_debt_16 : decode cX1_debt 16 = .ok (.getfield 12, 3) := by decide +kernel
theorem dX1_debt_19 : decode cX1_debt 19 = .ok (.iload_n 2, 1) := by decide +kernel
theorem dX1_debt_20 : decode cX1_debt 20 = .ok (.iconst 2, 1) := by decide +kernel
theorem dX1_debt_21 : decode cX1_debt 21 = .ok (.invokevirtual 94, 3) := by decide +kernel
theorem dX1_debt_24 : decode cX1_debt 24 = .ok (.i2l, 1) := by decide +kernel
theorem dX1_debt_25 : decode cX1_debt 25 = .ok (.lstore_n 3, 1) := by decide +kernel
theorem dX1_debt_26 : decode cX1_debt 26 = .ok (.aload_n 0, 1) := by decide +kernel
theorem dX1_debt_27 : decode cX1_debt 27 = .ok (.getfield 12, 3) := by decide +kernel
theorem dX1_debt_30 : decode cX1_debt 30 = .ok (.iload_n 2, 1) := by decide +kernel
theorem dX1_debt_31 : decode cX1_debt 31 = .ok (.invokevirtual 97, 3) := by decide +kernel
theorem dX1_debt_34 : decode cX1_debt 34 = .ok (.ifCond .ne 10, 3) := by decide +kernel
theorem dX1_debt_37 : decode cX1_debt 37 = .ok (.aload_n 0, 1) := by decide +kernel
theorem dX1_debt_38 : decode cX1_debt 38 = .ok (.iload_n 1, 1) := by decide +kernel
theorem dX1_debt_39 : decode cX1_debt 39 = .ok (.lload_n 3, 1) := by decide +kernel
theorem dX1_debt_40 : decode cX1_debt 40 = .ok (.invokevirtual 101, 3) := by decide +kernel
theorem dX1_debt_43 : decode cX1_debt 43 = .ok (.lreturn, 1) := by decide +kernel
theorem dX1_debt_44 : decode cX1_debt 44 = .ok (.aload_n 0, 1) := by decide +kernel
theorem dX1_debt_45 : decode cX1_debt 45 = .ok (.getfield 12, 3) := by decide +kernel
theorem dX1_debt_48 : decode cX1_debt 48 = .ok (.iload_n 2, 1) := by decide +kernel
theorem dX1_debt_49 : decode cX1_debt 49 = .ok (.iconst 1, 1) := by decide +kernel
theorem dX1_debt_50 : decode cX1_debt 50 = .ok (.invokevirtual 94, 3) := by decide +kernel
theorem dX1_debt_53 : decode cX1_debt 53 = .ok (.istore 5, 2) := by decide +kernel
theorem dX1_debt_55 : decode cX1_debt 55 = .ok (.iload 5, 2) := by decide +kernel
theorem dX1_debt_57 : decode cX1_debt 57 = .ok (.iload_n 1, 1) := by decide +kernel
theorem dX1_debt_58 : decode cX1_debt 58 = .ok (.if_icmp .ne 5, 3) := by decide +kernel
theorem dX1_debt_61 : decode cX1_debt 61 = .ok (.lconst 0, 1) := by decide +kernel
theorem dX1_debt_62 : decode cX1_debt 62 = .ok (.lreturn, 1) := by decide +kernel
theorem dX1_debt_63 : decode cX1_debt 63 = .ok (.aload_n 0, 1) := by decide +kernel
theorem dX1_debt_64 : decode cX1_debt 64 = .ok (.getfield 12, 3) := by decide +kernel
theorem dX1_debt_67 : decode cX1_debt 67 = .ok (.iconst 3, 1) := by decide +kernel
theorem dX1_debt_68 : decode cX1_debt 68 = .ok (.invokevirtual 105, 3) := by decide +kernel
theorem dX1_debt_71 : decode cX1_debt 71 = .ok (.ifCond .ne 10, 3) := by decide +kernel
theorem dX1_debt_74 : decode cX1_debt 74 = .ok (.aload_n 0, 1) := by decide +kernel
theorem dX1_debt_75 : decode cX1_debt 75 = .ok (.iload_n 1, 1) := by decide +kernel
theorem dX1_debt_76 : decode cX1_debt 76 = .ok (.lload_n 3, 1) := by decide +kernel
theorem dX1_debt_77 : decode cX1_debt 77 = .ok (.invokevirtual 101, 3) := by decide +kernel
theorem dX1_debt_80 : decode cX1_debt 80 = .ok (.lreturn, 1) := by decide +kernel
theorem dX1_debt_81 : decode cX1_debt 81 = .ok (.lload_n 3, 1) := by decide +kernel
theorem dX1_debt_82 : decode cX1_debt 82 = .ok (.aload_n 0, 1) := by decide +kernel
theorem dX1_debt_83 : decode cX1_debt 83 = .ok (.getfield 18, 3) := by decide +kernel
theorem dX1_debt_86 : decode cX1_debt 86 = .ok (.iload_n 1, 1) := by decide +kernel
theorem dX1_debt_87 : decode cX1_debt 87 = .ok (.iaload, 1) := by decide +kernel
theorem dX1_debt_88 : decode cX1_debt 88 = .ok (.i2l, 1) := by decide +kernel
theorem dX1_debt_89 : decode cX1_debt 89 = .ok (.lmul, 1) := by decide +kernel
theorem dX1_debt_90 : decode cX1_debt 90 = .ok (.aload_n 0, 1) := by decide +kernel
theorem dX1_debt_91 : decode cX1_debt 91 = .ok (.getfield 35, 3) := by decide +kernel
theorem dX1_debt_94 : decode cX1_debt 94 = .ok (.aload_n 0, 1) := by decide +kernel
theorem dX1_debt_95 : decode cX1_debt 95 = .ok (.getfield 18, 3) := by decide +kernel
theorem dX1_debt_98 : decode cX1_debt 98 = .ok (.iload 5, 2) := by decide +kernel
theorem dX1_debt_100 : decode cX1_debt 100 = .ok (.iaload, 1) := by decide +kernel
theorem dX1_debt_101 : decode cX1_debt 101 = .ok (.isub, 1) := by decide +kernel
theorem dX1_debt_102 : decode cX1_debt 102 = .ok (.i2l, 1) := by decide +kernel
theorem dX1_debt_103 : decode cX1_debt 103 = .ok (.invokestatic 80, 3) := by decide +kernel
theorem dX1_debt_106 : decode cX1_debt 106 = .ok (.lreturn, 1) := by decide +kernel
theorem dX1_backFor_0 : decode cX1_backFor 0 = .ok (.aload_n 0, 1) := by decide +kernel
theorem dX1_backFor_1 : decode cX1_backFor 1 = .ok (.getfield 12, 3) := by decide +kernel
theorem dX1_backFor_4 : decode cX1_backFor 4 = .ok (.iconst 3, 1) := by decide +kernel
theorem dX1_backFor_5 : decode cX1_backFor 5 = .ok (.invokevirtual 105, 3) := by decide +kernel
theorem dX1_backFor_8 : decode cX1_backFor 8 = .ok (.ifCond .eq 31, 3) := by decide +kernel
theorem dX1_backFor_11 : decode cX1_backFor 11 = .ok (.aload_n 0, 1) := by decide +kernel
theorem dX1_backFor_12 : decode cX1_backFor 12 = .ok (.getfield 12, 3) := by decide +kernel
theorem dX1_backFor_15 : decode cX1_backFor 15 = .ok (.iload_n 1, 1) := by decide +kernel
theorem dX1_backFor_16 : decode cX1_backFor 16 = .ok (.invokevirtual 97, 3) := by decide +kernel
theorem dX1_backFor_19 : decode cX1_backFor 19 = .ok (.ifCond .eq 20, 3) := by decide +kernel
theorem dX1_backFor_22 : decode cX1_backFor 22 = .ok (.aload_n 0, 1) := by decide +kernel
theorem dX1_backFor_23 : decode cX1_backFor 23 = .ok (.getfield 12, 3) := by decide +kernel
theorem dX1_backFor_26 : decode cX1_backFor 26 = .ok (.iload_n 1, 1) := by decide +kernel
theorem dX1_backFor_27 : decode cX1_backFor 27 = .ok (.invokevirtual 91, 3) := by decide +kernel
theorem dX1_backFor_30 : decode cX1_backFor 30 = .ok (.bipush (-2), 2) := by decide +kernel
theorem dX1_backFor_32 : decode cX1_backFor 32 = .ok (.if_icmp .eq 7, 3) := by decide +kernel
theorem dX1_backFor_35 : decode cX1_backFor 35 = .ok (.iconst 1, 1) := by decide +kernel
theorem dX1_backFor_36 : decode cX1_backFor 36 = .ok (.goto 4, 3) := by decide +kernel
theorem dX1_backFor_39 : decode cX1_backFor 39 = .ok (.iconst 0, 1) := by decide +kernel
theorem dX1_backFor_40 : decode cX1_backFor 40 = .ok (.istore_n 3, 1) := by decide +kernel
theorem dX1_backFor_41 : decode cX1_backFor 41 = .ok (.iload_n 3, 1) := by decide +kernel
theorem dX1_backFor_42 : decode cX1_backFor 42 = .ok (.ifCond .eq 16, 3) := by decide +kernel
theorem dX1_backFor_45 : decode cX1_backFor 45 = .ok (.aload_n 0, 1) := by decide +kernel
theorem dX1_backFor_46 : decode cX1_backFor 46 = .ok (.getfield 12, 3) := by decide +kernel
theorem dX1_backFor_49 : decode cX1_backFor 49 = .ok (.iload_n 1, 1) := by decide +kernel
theorem dX1_backFor_50 : decode cX1_backFor 50 = .ok (.iconst 1, 1) := by decide +kernel
theorem dX1_backFor_51 : decode cX1_backFor 51 = .ok (.invokevirtual 94, 3) := by decide +kernel
theorem dX1_backFor_54 : decode cX1_backFor 54 = .ok (.iload_n 2, 1) := by decide +kernel
theorem dX1_backFor_55 : decode cX1_backFor 55 = .ok (.if_icmp .ne 5, 3) := by decide +kernel
theorem dX1_backFor_58 : decode cX1_backFor 58 = .ok (.lconst 0, 1) := by decide +kernel
theorem dX1_backFor_59 : decode cX1_backFor 59 = .ok (.lreturn, 1) := by decide +kernel
theorem dX1_backFor_60 : decode cX1_backFor 60 = .ok (.aload_n 0, 1) := by decide +kernel
theorem dX1_backFor_61 : decode cX1_backFor 61 = .ok (.iload_n 2, 1) := by decide +kernel
theorem dX1_backFor_62 : decode cX1_backFor 62 = .ok (.iload_n 1, 1) := by decide +kernel
theorem dX1_backFor_63 : decode cX1_backFor 63 = .ok (.invokevirtual 108, 3) := by decide +kernel
theorem dX1_backFor_66 : decode cX1_backFor 66 = .ok (.aload_n 0, 1) := by decide +kernel
theorem dX1_backFor_67 : decode cX1_backFor 67 = .ok (.iload_n 2, 1) := by decide +kernel
theorem dX1_backFor_68 : decode cX1_backFor 68 = .ok (.aload_n 0, 1) := by decide +kernel
theorem dX1_backFor_69 : decode cX1_backFor 69 = .ok (.getfield 12, 3) := by decide +kernel
theorem dX1_backFor_72 : decode cX1_backFor 72 = .ok (.iload_n 1, 1) := by decide +kernel
theorem dX1_backFor_73 : decode cX1_backFor 73 = .ok (.iconst 2, 1) := by decide +kernel
theorem dX1_backFor_74 : decode cX1_backFor 74 = .ok (.invokevirtual 94, 3) := by decide +kernel
theorem dX1_backFor_77 : decode cX1_backFor 77 = .ok (.i2l, 1) := by decide +kernel
theorem dX1_backFor_78 : decode cX1_backFor 78 = .ok (.invokevirtual 101, 3) := by decide +kernel
theorem dX1_backFor_81 : decode cX1_backFor 81 = .ok (.lsub, 1) := by decide +kernel
theorem dX1_backFor_82 : decode cX1_backFor 82 = .ok (.lreturn, 1) := by decide +kernel
theorem dX1_oweBack_0 : decode cX1_oweBack 0 = .ok (.iconst 0, 1) := by decide +kernel
theorem dX1_oweBack_1 : decode cX1_oweBack 1 = .ok (.istore_n 1, 1) := by decide +kernel
theorem dX1_oweBack_2 : decode cX1_oweBack 2 = .ok (.iload_n 1, 1) := by decide +kernel
theorem dX1_oweBack_3 : decode cX1_oweBack 3 = .ok (.aload_n 0, 1) := by decide +kernel
theorem dX1_oweBack_4 : decode cX1_oweBack 4 = .ok (.getfield 12, 3) := by decide +kernel
theorem dX1_oweBack_7 : decode cX1_oweBack 7 = .ok (.getfield 84, 3) := by decide +kernel
theorem dX1_oweBack_10 : decode cX1_oweBack 10 = .ok (.if_icmp .ge 66, 3) := by decide +kernel
theorem dX1_oweBack_13 : decode cX1_oweBack 13 = .ok (.aload_n 0, 1) := by decide +kernel
theorem dX1_oweBack_14 : decode cX1_oweBack 14 = .ok (.getfield 12, 3) := by decide +kernel
theorem dX1_oweBack_17 : decode cX1_oweBack 17 = .ok (.iload_n 1, 1) := by decide +kernel
theorem dX1_oweBack_18 : decode cX1_oweBack 18 = .ok (.invokevirtual 97, 3) := by decide +kernel
theorem dX1_oweBack_21 : decode cX1_oweBack 21 = .ok (.ifCond .eq 49, 3) := by decide +kernel
theorem dX1_oweBack_24 : decode cX1_oweBack 24 = .ok (.iconst 0, 1) := by decide +kernel
theorem dX1_oweBack_25 : decode cX1_oweBack 25 = .ok (.istore_n 2, 1) := by decide +kernel
theorem dX1_oweBack_26 : decode cX1_oweBack 26 = .ok (.iload_n 2, 1) := by decide +kernel
theorem dX1_oweBack_27 : decode cX1_oweBack 27 = .ok (.aload_n 0, 1) := by decide +kernel
theorem dX1_oweBack_28 : decode cX1_oweBack 28 = .ok (.getfield 12, 3) := by decide +kernel
theorem dX1_oweBack_31 : decode cX1_oweBack 31 = .ok (.getfield 61, 3) := by decide +kernel
theorem dX1_oweBack_34 : decode cX1_oweBack 34 = .ok (.if_icmp .ge 36, 3) := by decide +kernel
theorem dX1_oweBack_37 : decode cX1_oweBack 37 = .ok (.aload_n 0, 1) := by decide +kernel
theorem dX1_oweBack_38 : decode cX1_oweBack 38 = .ok (.getfield 22, 3) := by decide +kernel
theorem dX1_oweBack_41 : decode cX1_oweBack 41 = .ok (.aload_n 0, 1) := by decide +kernel
theorem dX1_oweBack_42 : decode cX1_oweBack 42 = .ok (.getfield 12, 3) := by decide +kernel
theorem dX1_oweBack_45 : decode cX1_oweBack 45 = .ok (.iload_n 1, 1) := by decide +kernel
theorem dX1_oweBack_46 : decode cX1_oweBack 46 = .ok (.iconst 1, 1) := by decide +kernel
theorem dX1_oweBack_47 : decode cX1_oweBack 47 = .ok (.invokevirtual 94, 3) := by decide +kernel
theorem dX1_oweBack_50 : decode cX1_oweBack 50 = .ok (.iconst 4, 1) := by decide +kernel
theorem dX1_oweBack_51 : decode cX1_oweBack 51 = .ok (.imul, 1) := by decide +kernel
theorem dX1_oweBack_52 : decode cX1_oweBack 52 = .ok (.iload_n 2, 1) := by decide +kernel
theorem dX1_oweBack_53 : decode cX1_oweBack 53 = .ok (.iadd, 1) := by decide +kernel
theorem dX1_oweBack_54 : decode cX1_oweBack 54 = .ok (.dup2, 1) := by decide +kernel
theorem dX1_oweBack_55 : decode cX1_oweBack 55 = .ok (.laload, 1) := by decide +kernel
theorem dX1_oweBack_56 : decode cX1_oweBack 56 = .ok (.aload_n 0, 1) := by decide +kernel
theorem dX1_oweBack_57 : decode cX1_oweBack 57 = .ok (.iload_n 1, 1) := by decide +kernel
theorem dX1_oweBack_58 : decode cX1_oweBack 58 = .ok (.iload_n 2, 1) := by decide +kernel
theorem dX1_oweBack_59 : decode cX1_oweBack 59 = .ok (.invokevirtual 111, 3) := by decide +kernel
theorem dX1_oweBack_62 : decode cX1_oweBack 62 = .ok (.ladd, 1) := by decide +kernel
theorem dX1_oweBack_63 : decode cX1_oweBack 63 = .ok (.lastore, 1) := by decide +kernel
theorem dX1_oweBack_64 : decode cX1_oweBack 64 = .ok (.iinc 2 1, 3) := by decide +kernel
theorem dX1_oweBack_67 : decode cX1_oweBack 67 = .ok (.goto (-41), 3) := by decide +kernel
theorem dX1_oweBack_70 : decode cX1_oweBack 70 = .ok (.iinc 1 1, 3) := by decide +kernel
theorem dX1_oweBack_73 : decode cX1_oweBack 73 = .ok (.goto (-71), 3) := by decide +kernel
theorem dX1_oweBack_76 : decode cX1_oweBack 76 = .ok (.return_, 1) := by decide +kernel
theorem dX1_oweShips_0 : decode cX1_oweShips 0 = .ok (.iconst 0, 1) := by decide +kernel
theorem dX1_oweShips_1 : decode cX1_oweShips 1 = .ok (.istore_n 1, 1) := by decide +kernel
theorem dX1_oweShips_2 : decode cX1_oweShips 2 = .ok (.iload_n 1, 1) := by decide +kernel
theorem dX1_oweShips_3 : decode cX1_oweShips 3 = .ok (.aload_n 0, 1) := by decide +kernel
theorem dX1_oweShips_4 : decode cX1_oweShips 4 = .ok (.getfield 12, 3) := by decide +kernel
theorem dX1_oweShips_7 : decode cX1_oweShips 7 = .ok (.getfield 61, 3) := by decide +kernel
theorem dX1_oweShips_10 : decode cX1_oweShips 10 = .ok (.if_icmp .ge 82, 3) := by decide +kernel
theorem dX1_oweShips_13 : decode cX1_oweShips 13 = .ok (.iconst 0, 1) := by decide +kernel
theorem dX1_oweShips_14 : decode cX1_oweShips 14 = .ok (.istore_n 2, 1) := by decide +kernel
theorem dX1_oweShips_15 : decode cX1_oweShips 15 = .ok (.iload_n 2, 1) := by decide +kernel
theorem dX1_oweShips_16 : decode cX1_oweShips 16 = .ok (.aload_n 0, 1) := by decide +kernel
theorem dX1_oweShips_17 : decode cX1_oweShips 17 = .ok (.getfield 12, 3) := by decide +kernel
theorem dX1_oweShips_20 : decode cX1_oweShips 20 = .ok (.getfield 61, 3) := by decide +kernel
theorem dX1_oweShips_23 : decode cX1_oweShips 23 = .ok (.if_icmp .ge 63, 3) := by decide +kernel
theorem dX1_oweShips_26 : decode cX1_oweShips 26 = .ok (.iload_n 1, 1) := by decide +kernel
theorem dX1_oweShips_27 : decode cX1_oweShips 27 = .ok (.iload_n 2, 1) := by decide +kernel
theorem dX1_oweShips_28 : decode cX1_oweShips 28 = .ok (.if_icmp .eq 52, 3) := by decide +kernel
theorem dX1_oweShips_31 : decode cX1_oweShips 31 = .ok (.aload_n 0, 1) := by decide +kernel
theorem dX1_oweShips_32 : decode cX1_oweShips 32 = .ok (.iload_n 1, 1) := by decide +kernel
theorem dX1_oweShips_33 : decode cX1_oweShips 33 = .ok (.iload_n 2, 1) := by decide +kernel
theorem dX1_oweShips_34 : decode cX1_oweShips 34 = .ok (.invokevirtual 114, 3) := by decide +kernel
theorem dX1_oweShips_37 : decode cX1_oweShips 37 = .ok (.lstore_n 3, 1) := by decide +kernel
theorem dX1_oweShips_38 : decode cX1_oweShips 38 = .ok (.aload_n 0, 1) := by decide +kernel
theorem dX1_oweShips_39 : decode cX1_oweShips 39 = .ok (.getfield 12, 3) := by decide +kernel
theorem dX1_oweShips_42 : decode cX1_oweShips 42 = .ok (.iconst 4, 1) := by decide +kernel
theorem dX1_oweShips_43 : decode cX1_oweShips 43 = .ok (.invokevirtual 105, 3) := by decide +kernel
theorem dX1_oweShips_46 : decode cX1_oweShips 46 = .ok (.ifCond .eq 7, 3) := by decide +kernel
theorem dX1_oweShips_49 : decode cX1_oweShips 49 = .ok (.lconst 0, 1) := by decide +kernel
theorem dX1_oweShips_50 : decode cX1_oweShips 50 = .ok (.goto 13, 3) := by decide +kernel
theorem dX1_oweShips_53 : decode cX1_oweShips 53 = .ok (.lload_n 3, 1) := by decide +kernel
theorem dX1_oweShips_54 : decode cX1_oweShips 54 = .ok (.aload_n 0, 1) := by decide +kernel
theorem dX1_oweShips_55 : decode cX1_oweShips 55 = .ok (.iload_n 2, 1) := by decide +kernel
theorem dX1_oweShips_56 : decode cX1_oweShips 56 = .ok (.iload_n 1, 1) := by decide +kernel
theorem dX1_oweShips_57 : decode cX1_oweShips 57 = .ok (.invokevirtual 114, 3) := by decide +kernel
theorem dX1_oweShips_60 : decode cX1_oweShips 60 = .ok (.invokestatic 117, 3) := by decide +kernel
theorem dX1_oweShips_63 : decode cX1_oweShips 63 = .ok (.lstore 5, 2) := by decide +kernel
theorem dX1_oweShips_65 : decode cX1_oweShips 65 = .ok (.aload_n 0, 1) := by decide +kernel
theorem dX1_oweShips_66 : decode cX1_oweShips 66 = .ok (.getfield 26, 3) := by decide +kernel
theorem dX1_oweShips_69 : decode cX1_oweShips 69 = .ok (.iload_n 1, 1) := by decide +kernel
theorem dX1_oweShips_70 : decode cX1_oweShips 70 = .ok (.bipush 16, 2) := by decide +kernel
theorem dX1_oweShips_72 : decode cX1_oweShips 72 = .ok (.imul, 1) := by decide +kernel
theorem dX1_oweShips_73 : decode cX1_oweShips 73 = .ok (.iload_n 2, 1) := by decide +kernel
theorem dX1_oweShips_74 : decode cX1_oweShips 74 = .ok (.iadd, 1) := by decide +kernel
theorem dX1_oweShips_75 : decode cX1_oweShips 75 = .ok (.lload_n 3, 1) := by decide +kernel
theorem dX1_oweShips_76 : decode cX1_oweShips 76 = .ok (.lload 5, 2) := by decide +kernel
theorem dX1_oweShips_78 : decode cX1_oweShips 78 = .ok (.lsub, 1) := by decide +kernel
theorem dX1_oweShips_79 : decode cX1_oweShips 79 = .ok (.lastore, 1) := by decide +kernel
theorem dX1_oweShips_80 : decode cX1_oweShips 80 = .ok (.iinc 2 1, 3) := by decide +kernel
theorem dX1_oweShips_83 : decode cX1_oweShips 83 = .ok (.goto (-68), 3) := by decide +kernel
theorem dX1_oweShips_86 : decode cX1_oweShips 86 = .ok (.iinc 1 1, 3) := by decide +kernel
theorem dX1_oweShips_89 : decode cX1_oweShips 89 = .ok (.goto (-87), 3) := by decide +kernel
theorem dX1_oweShips_92 : decode cX1_oweShips 92 = .ok (.return_, 1) := by decide +kernel
theorem dX1_hullDebt_0 : decode cX1_hullDebt 0 = .ok (.aload_n 0, 1) := by decide +kernel
theorem dX1_hullDebt_1 : decode cX1_hullDebt 1 = .ok (.iload_n 1, 1) := by decide +kernel
theorem dX1_hullDebt_2 : decode cX1_hullDebt 2 = .ok (.aload_n 0, 1) := by decide +kernel
theorem dX1_hullDebt_3 : decode cX1_hullDebt 3 = .ok (.getfield 12, 3) := by decide +kernel
theorem dX1_hullDebt_6 : decode cX1_hullDebt 6 = .ok (.iload_n 2, 1) := by decide +kernel
theorem dX1_hullDebt_7 : decode cX1_hullDebt 7 = .ok (.iconst 2, 1) := by decide +kernel
theorem dX1_hullDebt_8 : decode cX1_hullDebt 8 = .ok (.invokevirtual 64, 3) := by decide +kernel
theorem dX1_hullDebt_11 : decode cX1_hullDebt 11 = .ok (.i2l, 1) := by decide +kernel
theorem dX1_hullDebt_12 : decode cX1_hullDebt 12 = .ok (.invokevirtual 101, 3) := by decide +kernel
theorem dX1_hullDebt_15 : decode cX1_hullDebt 15 = .ok (.lreturn, 1) := by decide +kernel
theorem dX1_backTo_0 : decode cX1_backTo 0 = .ok (.aload_n 0, 1) := by decide +kernel
theorem dX1_backTo_1 : decode cX1_backTo 1 = .ok (.getfield 22, 3) := by decide +kernel
theorem dX1_backTo_4 : decode cX1_backTo 4 = .ok (.iload_n 1, 1) := by decide +kernel
theorem dX1_backTo_5 : decode cX1_backTo 5 = .ok (.iconst 4, 1) := by decide +kernel
theorem dX1_backTo_6 : decode cX1_backTo 6 = .ok (.imul, 1) := by decide +kernel
theorem dX1_backTo_7 : decode cX1_backTo 7 = .ok (.iload_n 2, 1) := by decide +kernel
theorem dX1_backTo_8 : decode cX1_backTo 8 = .ok (.iadd, 1) := by decide +kernel
theorem dX1_backTo_9 : decode cX1_backTo 9 = .ok (.laload, 1) := by decide +kernel
theorem dX1_backTo_10 : decode cX1_backTo 10 = .ok (.lreturn, 1) := by decide +kernel
theorem dX1_crossDebt_0 : decode cX1_crossDebt 0 = .ok (.aload_n 0, 1) := by decide +kernel
theorem dX1_crossDebt_1 : decode cX1_crossDebt 1 = .ok (.iload_n 1, 1) := by decide +kernel
theorem dX1_crossDebt_2 : decode cX1_crossDebt 2 = .ok (.iload_n 2, 1) := by decide +kernel
theorem dX1_crossDebt_3 : decode cX1_crossDebt 3 = .ok (.invokevirtual 122, 3) := by decide +kernel
theorem dX1_crossDebt_6 : decode cX1_crossDebt 6 = .ok (.aload_n 0, 1) := by decide +kernel
theorem dX1_crossDebt_7 : decode cX1_crossDebt 7 = .ok (.iload_n 1, 1) := by decide +kernel
theorem dX1_crossDebt_8 : decode cX1_crossDebt 8 = .ok (.iload_n 2, 1) := by decide +kernel
theorem dX1_crossDebt_9 : decode cX1_crossDebt 9 = .ok (.invokevirtual 125, 3) := by decide +kernel
theorem dX1_crossDebt_12 : decode cX1_crossDebt 12 = .ok (.ladd, 1) := by decide +kernel
theorem dX1_crossDebt_13 : decode cX1_crossDebt 13 = .ok (.lreturn, 1) := by decide +kernel
theorem dX1_backForClaim_0 : decode cX1_backForClaim 0 = .ok (.lconst 0, 1) := by decide +kernel
theorem dX1_backForClaim_1 : decode cX1_backForClaim 1 = .ok (.lstore_n 2, 1) := by decide +kernel
theorem dX1_backForClaim_2 : decode cX1_backForClaim 2 = .ok (.iconst 0, 1) := by decide +kernel
theorem dX1_backForClaim_3 : decode cX1_backForClaim 3 = .ok (.istore 4, 2) := by decide +kernel
theorem dX1_backForClaim_5 : decode cX1_backForClaim 5 = .ok (.iload 4, 2) := by decide +kernel
theorem dX1_backForClaim_7 : decode cX1_backForClaim 7 = .ok (.aload_n 0, 1) := by decide +kernel
theorem dX1_backForClaim_8 : decode cX1_backForClaim 8 = .ok (.getfield 12, 3) := by decide +kernel
theorem dX1_backForClaim_11 : decode cX1_backForClaim 11 = .ok (.getfield 61, 3) := by decide +kernel
theorem dX1_backForClaim_14 : decode cX1_backForClaim 14 = .ok (.if_icmp .ge 19, 3) := by decide +kernel
theorem dX1_backForClaim_17 : decode cX1_backForClaim 17 = .ok (.lload_n 2, 1) := by decide +kernel
theorem dX1_backForClaim_18 : decode cX1_backForClaim 18 = .ok (.aload_n 0, 1) := by decide +kernel
theorem dX1_backForClaim_19 : decode cX1_backForClaim 19 = .ok (.iload_n 1, 1) := by decide +kernel
theorem dX1_backForClaim_20 : decode cX1_backForClaim 20 = .ok (.iload 4, 2) := by decide +kernel
theorem dX1_backForClaim_22 : decode cX1_backForClaim 22 = .ok (.invokevirtual 111, 3) := by decide +kernel
theorem dX1_backForClaim_25 : decode cX1_backForClaim 25 = .ok (.ladd, 1) := by decide +kernel
theorem dX1_backForClaim_26 : decode cX1_backForClaim 26 = .ok (.lstore_n 2, 1) := by decide +kernel
theorem dX1_backForClaim_27 : decode cX1_backForClaim 27 = .ok (.iinc 4 1, 3) := by decide +kernel
theorem dX1_backForClaim_30 : decode cX1_backForClaim 30 = .ok (.goto (-25), 3) := by decide +kernel
theorem dX1_backForClaim_33 : decode cX1_backForClaim 33 = .ok (.lload_n 2, 1) := by decide +kernel
theorem dX1_backForClaim_34 : decode cX1_backForClaim 34 = .ok (.lreturn, 1) := by decide +kernel
theorem dX1_payAll_0 : decode cX1_payAll 0 = .ok (.aload_n 0, 1) := by decide +kernel
theorem dX1_payAll_1 : decode cX1_payAll 1 = .ok (.getfield 26, 3) := by decide +kernel
theorem dX1_payAll_4 : decode cX1_payAll 4 = .ok (.iload_n 1, 1) := by decide +kernel
theorem dX1_payAll_5 : decode cX1_payAll 5 = .ok (.bipush 16, 2) := by decide +kernel
theorem dX1_payAll_7 : decode cX1_payAll 7 = .ok (.imul, 1) := by decide +kernel
theorem dX1_payAll_8 : decode cX1_payAll 8 = .ok (.aload_n 0, 1) := by decide +kernel
theorem dX1_payAll_9 : decode cX1_payAll 9 = .ok (.getfield 29, 3) := by decide +kernel
theorem dX1_payAll_12 : decode cX1_payAll 12 = .ok (.iload_n 1, 1) := by decide +kernel
theorem dX1_payAll_13 : decode cX1_payAll 13 = .ok (.bipush 16, 2) := by decide +kernel
theorem dX1_payAll_15 : decode cX1_payAll 15 = .ok (.imul, 1) := by decide +kernel
theorem dX1_payAll_16 : decode cX1_payAll 16 = .ok (.bipush 16, 2) := by decide +kernel
theorem dX1_payAll_18 : decode cX1_payAll 18 = .ok (.invokestatic 128, 3) := by decide +kernel
theorem dX1_payAll_21 : decode cX1_payAll 21 = .ok (.return_, 1) := by decide +kernel
theorem dX1_payOutOf_0 : decode cX1_payOutOf 0 = .ok (.aload_n 0, 1) := by decide +kernel
theorem dX1_payOutOf_1 : decode cX1_payOutOf 1 = .ok (.getfield 12, 3) := by decide +kernel
theorem dX1_payOutOf_4 : decode cX1_payOutOf 4 = .ok (.iload_n 1, 1) := by decide +kernel
theorem dX1_payOutOf_5 : decode cX1_payOutOf 5 = .ok (.iload_n 2, 1) := by decide +kernel
theorem dX1_payOutOf_6 : decode cX1_payOutOf 6 = .ok (.invokevirtual 134, 3) := by decide +kernel
theorem dX1_payOutOf_9 : decode cX1_payOutOf 9 = .ok (.lstore_n 3, 1) := by decide +kernel
theorem dX1_payOutOf_10 : decode cX1_payOutOf 10 = .ok (.iconst 0, 1) := by decide +kernel
theorem dX1_payOutOf_11 : decode cX1_payOutOf 11 = .ok (.istore 5, 2) := by decide +kernel
theorem dX1_payOutOf_13 : decode cX1_payOutOf 13 = .ok (.iload 5, 2) := by decide +kernel
theorem dX1_payOutOf_15 : decode cX1_payOutOf 15 = .ok (.iconst 1, 1) := by decide +kernel
theorem dX1_payOutOf_16 : decode cX1_payOutOf 16 = .ok (.if_icmp .gt 49, 3) := by decide +kernel
theorem dX1_payOutOf_19 : decode cX1_payOutOf 19 = .ok (.aload_n 0, 1) := by decide +kernel
theorem dX1_payOutOf_20 : decode cX1_payOutOf 20 = .ok (.iload_n 1, 1) := by decide +kernel
theorem dX1_payOutOf_21 : decode cX1_payOutOf 21 = .ok (.iload_n 2, 1) := by decide +kernel
theorem dX1_payOutOf_22 : decode cX1_payOutOf 22 = .ok (.iload 5, 2) := by decide +kernel
theorem dX1_payOutOf_24 : decode cX1_payOutOf 24 = .ok (.invokevirtual 137, 3) := by decide +kernel
theorem dX1_payOutOf_27 : decode cX1_payOutOf 27 = .ok (.lstore 6, 2) := by decide +kernel
theorem dX1_payOutOf_29 : decode cX1_payOutOf 29 = .ok (.lload 6, 2) := by decide +kernel
theorem dX1_payOutOf_31 : decode cX1_payOutOf 31 = .ok (.lload_n 3, 1) := by decide +kernel
theorem dX1_payOutOf_32 : decode cX1_payOutOf 32 = .ok (.lcmp, 1) := by decide +kernel
theorem dX1_payOutOf_33 : decode cX1_payOutOf 33 = .ok (.ifCond .le 16, 3) := by decide +kernel
theorem dX1_payOutOf_36 : decode cX1_payOutOf 36 = .ok (.aload_n 0, 1) := by decide +kernel
theorem dX1_payOutOf_37 : decode cX1_payOutOf 37 = .ok (.iload_n 1, 1) := by decide +kernel
theorem dX1_payOutOf_38 : decode cX1_payOutOf 38 = .ok (.lload_n 3, 1) := by decide +kernel
theorem dX1_payOutOf_39 : decode cX1_payOutOf 39 = .ok (.lload 6, 2) := by decide +kernel
theorem dX1_payOutOf_41 : decode cX1_payOutOf 41 = .ok (.invokevirtual 141, 3) := by decide +kernel
theorem dX1_payOutOf_44 : decode cX1_payOutOf 44 = .ok (.lconst 0, 1) := by decide +kernel
theorem dX1_payOutOf_45 : decode cX1_payOutOf 45 = .ok (.lstore_n 3, 1) := by decide +kernel
theorem dX1_payOutOf_46 : decode cX1_payOutOf 46 = .ok (.goto 13, 3) := by decide +kernel
theorem dX1_payOutOf_49 : decode cX1_payOutOf 49 = .ok (.aload_n 0, 1) := by decide +kernel
theorem dX1_payOutOf_50 : decode cX1_payOutOf 50 = .ok (.iload_n 1, 1) := by decide +kernel
theorem dX1_payOutOf_51 : decode cX1_payOutOf 51 = .ok (.invokevirtual 145, 3) := by decide +kernel
theorem dX1_payOutOf_54 : decode cX1_payOutOf 54 = .ok (.lload_n 3, 1) := by decide +kernel
theorem dX1_payOutOf_55 : decode cX1_payOutOf 55 = .ok (.lload 6, 2) := by decide +kernel
theorem dX1_payOutOf_57 : decode cX1_payOutOf 57 = .ok (.lsub, 1) := by decide +kernel
theorem dX1_payOutOf_58 : decode cX1_payOutOf 58 = .ok (.lstore_n 3, 1) := by decide +kernel
theorem dX1_payOutOf_59 : decode cX1_payOutOf 59 = .ok (.iinc 5 1, 3) := by decide +kernel
theorem dX1_payOutOf_62 : decode cX1_payOutOf 62 = .ok (.goto (-49), 3) := by decide +kernel
theorem dX1_payOutOf_65 : decode cX1_payOutOf 65 = .ok (.return_, 1) := by decide +kernel
theorem dX1_findLacks_0 : decode cX1_findLacks 0 = .ok (.lconst 0, 1) := by decide +kernel
theorem dX1_findLacks_1 : decode cX1_findLacks 1 = .ok (.lstore 4, 2) := by decide +kernel
theorem dX1_findLacks_3 : decode cX1_findLacks 3 = .ok (.iconst 0, 1) := by decide +kernel
theorem dX1_findLacks_4 : decode cX1_findLacks 4 = .ok (.istore 6, 2) := by decide +kernel
theorem dX1_findLacks_6 : decode cX1_findLacks 6 = .ok (.iload 6, 2) := by decide +kernel
theorem dX1_findLacks_8 : decode cX1_findLacks 8 = .ok (.bipush 16, 2) := by decide +kernel
theorem dX1_findLacks_10 : decode cX1_findLacks 10 = .ok (.if_icmp .ge 72, 3) := by decide +kernel
theorem dX1_findLacks_13 : decode cX1_findLacks 13 = .ok (.aload_n 0, 1) := by decide +kernel
theorem dX1_findLacks_14 : decode cX1_findLacks 14 = .ok (.getfield 32, 3) := by decide +kernel
theorem dX1_findLacks_17 : decode cX1_findLacks 17 = .ok (.iload 6, 2) := by decide +kernel
theorem dX1_findLacks_19 : decode cX1_findLacks 19 = .ok (.lconst 0, 1) := by decide +kernel
theorem dX1_findLacks_20 : decode cX1_findLacks 20 = .ok (.lastore, 1) := by decide +kernel
theorem dX1_findLacks_21 : decode cX1_findLacks 21 = .ok (.aload_n 0, 1) := by decide +kernel
theorem dX1_findLacks_22 : decode cX1_findLacks 22 = .ok (.iload 6, 2) := by decide +kernel
theorem dX1_findLacks_24 : decode cX1_findLacks 24 = .ok (.iload_n 2, 1) := by decide +kernel
theorem dX1_findLacks_25 : decode cX1_findLacks 25 = .ok (.iload_n 3, 1) := by decide +kernel
theorem dX1_findLacks_26 : decode cX1_findLacks 26 = .ok (.invokevirtual 148, 3) := by decide +kernel
theorem dX1_findLacks_29 : decode cX1_findLacks 29 = .ok (.ifCond .eq 47, 3) := by decide +kernel
theorem dX1_findLacks_32 : decode cX1_findLacks 32 = .ok (.aload_n 0, 1) := by decide +kernel
theorem dX1_findLacks_33 : decode cX1_findLacks 33 = .ok (.getfield 32, 3) := by decide +kernel
theorem dX1_findLacks_36 : decode cX1_findLacks 36 = .ok (.iload 6, 2) := by decide +kernel
theorem dX1_findLacks_38 : decode cX1_findLacks 38 = .ok (.aload_n 0, 1) := by decide +kernel
theorem dX1_findLacks_39 : decode cX1_findLacks 39 = .ok (.getfield 26, 3) := by decide +kernel
theorem dX1_findLacks_42 : decode cX1_findLacks 42 = .ok (.iload_n 1, 1) := by decide +kernel
theorem dX1_findLacks_43 : decode cX1_findLacks 43 = .ok (.bipush 16, 2) := by decide +kernel
theorem dX1_findLacks_45 : decode cX1_findLacks 45 = .ok (.imul, 1) := by decide +kernel
theorem dX1_findLacks_46 : decode cX1_findLacks 46 = .ok (.iload 6, 2) := by decide +kernel
theorem dX1_findLacks_48 : decode cX1_findLacks 48 = .ok (.iadd, 1) := by decide +kernel
theorem dX1_findLacks_49 : decode cX1_findLacks 49 = .ok (.laload, 1) := by decide +kernel
theorem dX1_findLacks_50 : decode cX1_findLacks 50 = .ok (.aload_n 0, 1) := by decide +kernel
theorem dX1_findLacks_51 : decode cX1_findLacks 51 = .ok (.getfield 29, 3) := by decide +kernel
theorem dX1_findLacks_54 : decode cX1_findLacks 54 = .ok (.iload_n 1, 1) := by decide +kernel
theorem dX1_findLacks_55 : decode cX1_findLacks 55 = .ok (.bipush 16, 2) := by decide +kernel
theorem dX1_findLacks_57 : decode cX1_findLacks 57 = .ok (.imul, 1) := by decide +kernel
theorem dX1_findLacks_58 : decode cX1_findLacks 58 = .ok (.iload 6, 2) := by decide +kernel
theorem dX1_findLacks_60 : decode cX1_findLacks 60 = .ok (.iadd, 1) := by decide +kernel
theorem dX1_findLacks_61 : decode cX1_findLacks 61 = .ok (.laload, 1) := by decide +kernel
theorem dX1_findLacks_62 : decode cX1_findLacks 62 = .ok (.lsub, 1) := by decide +kernel
theorem dX1_findLacks_63 : decode cX1_findLacks 63 = .ok (.lastore, 1) := by decide +kernel
theorem dX1_findLacks_64 : decode cX1_findLacks 64 = .ok (.lload 4, 2) := by decide +kernel
theorem dX1_findLacks_66 : decode cX1_findLacks 66 = .ok (.aload_n 0, 1) := by decide +kernel
theorem dX1_findLacks_67 : decode cX1_findLacks 67 = .ok (.getfield 32, 3) := by decide +kernel
theorem dX1_findLacks_70 : decode cX1_findLacks 70 = .ok (.iload 6, 2) := by decide +kernel
theorem dX1_findLacks_72 : decode cX1_findLacks 72 = .ok (.laload, 1) := by decide +kernel
theorem dX1_findLacks_73 : decode cX1_findLacks 73 = .ok (.ladd, 1) := by decide +kernel
theorem dX1_findLacks_74 : decode cX1_findLacks 74 = .ok (.lstore 4, 2) := by decide +kernel
theorem dX1_findLacks_76 : decode cX1_findLacks 76 = .ok (.iinc 6 1, 3) := by decide +kernel
theorem dX1_findLacks_79 : decode cX1_findLacks 79 = .ok (.goto (-73), 3) := by decide +kernel
theorem dX1_findLacks_82 : decode cX1_findLacks 82 = .ok (.lload 4, 2) := by decide +kernel
theorem dX1_findLacks_84 : decode cX1_findLacks 84 = .ok (.lreturn, 1) := by decide +kernel
theorem dX1_takesPart_0 : decode cX1_takesPart 0 = .ok (.iload_n 1, 1) := by decide +kernel
theorem dX1_takesPart_1 : decode cX1_takesPart 1 = .ok (.iconst 4, 1) := by decide +kernel
theorem dX1_takesPart_2 : decode cX1_takesPart 2 = .ok (.if_icmp .ge 29, 3) := by decide +kernel
theorem dX1_takesPart_5 : decode cX1_takesPart 5 = .ok (.iload_n 1, 1) := by decide +kernel
theorem dX1_takesPart_6 : decode cX1_takesPart 6 = .ok (.aload_n 0, 1) := by decide +kernel
theorem dX1_takesPart_7 : decode cX1_takesPart 7 = .ok (.getfield 12, 3) := by decide +kernel
theorem dX1_takesPart_10 : decode cX1_takesPart 10 = .ok (.getfield 61, 3) := by decide +kernel
theorem dX1_takesPart_13 : decode cX1_takesPart 13 = .ok (.if_icmp .ge 16, 3) := by decide +kernel
theorem dX1_takesPart_16 : decode cX1_takesPart 16 = .ok (.iload_n 2, 1) := by decide +kernel
theorem dX1_takesPart_17 : decode cX1_takesPart 17 = .ok (.iconst 5, 1) := by decide +kernel
theorem dX1_takesPart_18 : decode cX1_takesPart 18 = .ok (.if_icmp .ne 11, 3) := by decide +kernel
theorem dX1_takesPart_21 : decode cX1_takesPart 21 = .ok (.iload_n 3, 1) := by decide +kernel
theorem dX1_takesPart_22 : decode cX1_takesPart 22 = .ok (.ifCond .ne 7, 3) := by decide +kernel
theorem dX1_takesPart_25 : decode cX1_takesPart 25 = .ok (.iconst 1, 1) := by decide +kernel
theorem dX1_takesPart_26 : decode cX1_takesPart 26 = .ok (.goto 4, 3) := by decide +kernel
theorem dX1_takesPart_29 : decode cX1_takesPart 29 = .ok (.iconst 0, 1) := by decide +kernel
theorem dX1_takesPart_30 : decode cX1_takesPart 30 = .ok (.ireturn, 1) := by decide +kernel
theorem dX1_takesPart_31 : decode cX1_takesPart 31 = .ok (.iload_n 1, 1) := by decide +kernel
theorem dX1_takesPart_32 : decode cX1_takesPart 32 = .ok (.iconst 4, 1) := by decide +kernel
theorem dX1_takesPart_33 : decode cX1_takesPart 33 = .ok (.isub, 1) := by decide +kernel
theorem dX1_takesPart_34 : decode cX1_takesPart 34 = .ok (.istore 4, 2) := by decide +kernel
theorem dX1_takesPart_36 : decode cX1_takesPart 36 = .ok (.iload 4, 2) := by decide +kernel
theorem dX1_takesPart_38 : decode cX1_takesPart 38 = .ok (.aload_n 0, 1) := by decide +kernel
theorem dX1_takesPart_39 : decode cX1_takesPart 39 = .ok (.getfield 12, 3) := by decide +kernel
theorem dX1_takesPart_42 : decode cX1_takesPart 42 = .ok (.getfield 84, 3) := by decide +kernel
theorem dX1_takesPart_45 : decode cX1_takesPart 45 = .ok (.if_icmp .ge 16, 3) := by decide +kernel
theorem dX1_takesPart_48 : decode cX1_takesPart 48 = .ok (.aload_n 0, 1) := by decide +kernel
theorem dX1_takesPart_49 : decode cX1_takesPart 49 = .ok (.getfield 12, 3) := by decide +kernel
theorem dX1_takesPart_52 : decode cX1_takesPart 52 = .ok (.iload 4, 2) := by decide +kernel
theorem dX1_takesPart_54 : decode cX1_takesPart 54 = .ok (.invokevirtual 91, 3) := by decide +kernel
theorem dX1_takesPart_57 : decode cX1_takesPart 57 = .ok (.iload_n 3, 1) := by decide +kernel
theorem dX1_takesPart_58 : decode cX1_takesPart 58 = .ok (.if_icmp .eq 5, 3) := by decide +kernel
theorem dX1_takesPart_61 : decode cX1_takesPart 61 = .ok (.iconst 0, 1) := by decide +kernel
theorem dX1_takesPart_62 : decode cX1_takesPart 62 = .ok (.ireturn, 1) := by decide +kernel
theorem dX1_takesPart_63 : decode cX1_takesPart 63 = .ok (.iload_n 2, 1) := by decide +kernel
theorem dX1_takesPart_64 : decode cX1_takesPart 64 = .ok (.iconst 5, 1) := by decide +kernel
theorem dX1_takesPart_65 : decode cX1_takesPart 65 = .ok (.if_icmp .eq 17, 3) := by decide +kernel
theorem dX1_takesPart_68 : decode cX1_takesPart 68 = .ok (.aload_n 0, 1) := by decide +kernel
theorem dX1_takesPart_69 : decode cX1_takesPart 69 = .ok (.getfield 12, 3) := by decide +kernel
theorem dX1_takesPart_72 : decode cX1_takesPart 72 = .ok (.iload 4, 2) := by decide +kernel
theorem dX1_takesPart_74 : decode cX1_takesPart 74 = .ok (.iconst 0, 1) := by decide +kernel
theorem dX1_takesPart_75 : decode cX1_takesPart 75 = .ok (.invokevirtual 94, 3) := by decide +kernel
theorem dX1_takesPart_78 : decode cX1_takesPart 78 = .ok (.iconst 1, 1) := by decide +kernel
theorem dX1_takesPart_79 : decode cX1_takesPart 79 = .ok (.if_icmp .ne 7, 3) := by decide +kernel
theorem dX1_takesPart_82 : decode cX1_takesPart 82 = .ok (.iconst 1, 1) := by decide +kernel
theorem dX1_takesPart_83 : decode cX1_takesPart 83 = .ok (.goto 4, 3) := by decide +kernel
theorem dX1_takesPart_86 : decode cX1_takesPart 86 = .ok (.iconst 0, 1) := by decide +kernel
theorem dX1_takesPart_87 : decode cX1_takesPart 87 = .ok (.ireturn, 1) := by decide +kernel
theorem dX1_payLacks_0 : decode cX1_payLacks 0 = .ok (.iconst 0, 1) := by decide +kernel
theorem dX1_payLacks_1 : decode cX1_payLacks 1 = .ok (.istore_n 2, 1) := by decide +kernel
theorem dX1_payLacks_2 : decode cX1_payLacks 2 = .ok (.iload_n 2, 1) := by decide +kernel
theorem dX1_payLacks_3 : decode cX1_payLacks 3 = .ok (.bipush 16, 2) := by decide +kernel
theorem dX1_payLacks_5 : decode cX1_payLacks 5 = .ok (.if_icmp .ge 29, 3) := by decide +kernel
theorem dX1_payLacks_8 : decode cX1_payLacks 8 = .ok (.aload_n 0, 1) := by decide +kernel
theorem dX1_payLacks_9 : decode cX1_payLacks 9 = .ok (.getfield 29, 3) := by decide +kernel
theorem dX1_payLacks_12 : decode cX1_payLacks 12 = .ok (.iload_n 1, 1) := by decide +kernel
theorem dX1_payLacks_13 : decode cX1_payLacks 13 = .ok (.bipush 16, 2) := by decide +kernel
theorem dX1_payLacks_15 : decode cX1_payLacks 15 = .ok (.imul, 1) := by decide +kernel
theorem dX1_payLacks_16 : decode cX1_payLacks 16 = .ok (.iload_n 2, 1) := by decide +kernel
theorem dX1_payLacks_17 : decode cX1_payLacks 17 = .ok (.iadd, 1) := by decide +kernel
theorem dX1_payLacks_18 : decode cX1_payLacks 18 = .ok (.dup2, 1) := by decide +kernel
theorem dX1_payLacks_19 : decode cX1_payLacks 19 = .ok (.laload, 1) := by decide +kernel
theorem dX1_payLacks_20 : decode cX1_payLacks 20 = .ok (.aload_n 0, 1) := by decide +kernel
theorem dX1_payLacks_21 : decode cX1_payLacks 21 = .ok (.getfield 32, 3) := by decide +kernel
theorem dX1_payLacks_24 : decode cX1_payLacks 24 = .ok (.iload_n 2, 1) := by decide +kernel
theorem dX1_payLacks_25 : decode cX1_payLacks 25 = .ok (.laload, 1) := by decide +kernel
theorem dX1_payLacks_26 : decode cX1_payLacks 26 = .ok (.ladd, 1) := by decide +kernel
theorem dX1_payLacks_27 : decode cX1_payLacks 27 = .ok (.lastore, 1) := by decide +kernel
theorem dX1_payLacks_28 : decode cX1_payLacks 28 = .ok (.iinc 2 1, 3) := by decide +kernel
theorem dX1_payLacks_31 : decode cX1_payLacks 31 = .ok (.goto (-29), 3) := by decide +kernel
theorem dX1_payLacks_34 : decode cX1_payLacks 34 = .ok (.return_, 1) := by decide +kernel
theorem dX1_shareScarce_0 : decode cX1_shareScarce 0 = .ok (.lload_n 2, 1) := by decide +kernel
theorem dX1_shareScarce_1 : decode cX1_shareScarce 1 = .ok (.lstore 6, 2) := by decide +kernel
theorem dX1_shareScarce_3 : decode cX1_shareScarce 3 = .ok (.iconst 0, 1) := by decide +kernel
theorem dX1_shareScarce_4 : decode cX1_shareScarce 4 = .ok (.istore 8, 2) := by decide +kernel
theorem dX1_shareScarce_6 : decode cX1_shareScarce 6 = .ok (.iload 8, 2) := by decide +kernel
theorem dX1_shareScarce_8 : decode cX1_shareScarce 8 = .ok (.bipush 16, 2) := by decide +kernel
theorem dX1_shareScarce_10 : decode cX1_shareScarce 10 = .ok (.if_icmp .ge 61, 3) := by decide +kernel
theorem dX1_shareScarce_13 : decode cX1_shareScarce 13 = .ok (.aload_n 0, 1) := by decide +kernel
theorem dX1_shareScarce_14 : decode cX1_shareScarce 14 = .ok (.getfield 32, 3) := by decide +kernel
theorem dX1_shareScarce_17 : decode cX1_shareScarce 17 = .ok (.iload 8, 2) := by decide +kernel
theorem dX1_shareScarce_19 : decode cX1_shareScarce 19 = .ok (.laload, 1) := by decide +kernel
theorem dX1_shareScarce_20 : decode cX1_shareScarce 20 = .ok (.lload_n 2, 1) := by decide +kernel
theorem dX1_shareScarce_21 : decode cX1_shareScarce 21 = .ok (.lmul, 1) := by decide +kernel
theorem dX1_shareScarce_22 : decode cX1_shareScarce 22 = .ok (.lload 4, 2) := by decide +kernel
theorem dX1_shareScarce_24 : decode cX1_shareScarce 24 = .ok (.invokestatic 80, 3) := by decide +kernel
theorem dX1_shareScarce_27 : decode cX1_shareScarce 27 = .ok (.lstore 9, 2) := by decide +kernel
theorem dX1_shareScarce_29 : decode cX1_shareScarce 29 = .ok (.aload_n 0, 1) := by decide +kernel
theorem dX1_shareScarce_30 : decode cX1_shareScarce 30 = .ok (.getfield 29, 3) := by decide +kernel
theorem dX1_shareScarce_33 : decode cX1_shareScarce 33 = .ok (.iload_n 1, 1) := by decide +kernel
theorem dX1_shareScarce_34 : decode cX1_shareScarce 34 = .ok (.bipush 16, 2) := by decide +kernel
theorem dX1_shareScarce_36 : decode cX1_shareScarce 36 = .ok (.imul, 1) := by decide +kernel
theorem dX1_shareScarce_37 : decode cX1_shareScarce 37 = .ok (.iload 8, 2) := by decide +kernel
theorem dX1_shareScarce_39 : decode cX1_shareScarce 39 = .ok (.iadd, 1) := by decide +kernel
theorem dX1_shareScarce_40 : decode cX1_shareScarce 40 = .ok (.dup2, 1) := by decide +kernel
theorem dX1_shareScarce_41 : decode cX1_shareScarce 41 = .ok (.laload, 1) := by decide +kernel
theorem dX1_shareScarce_42 : decode cX1_shareScarce 42 = .ok (.lload 9, 2) := by decide +kernel
theorem dX1_shareScarce_44 : decode cX1_shareScarce 44 = .ok (.ladd, 1) := by decide +kernel
theorem dX1_shareScarce_45 : decode cX1_shareScarce 45 = .ok (.lastore, 1) := by decide +kernel
theorem dX1_shareScarce_46 : decode cX1_shareScarce 46 = .ok (.aload_n 0, 1) := by decide +kernel
theorem dX1_shareScarce_47 : decode cX1_shareScarce 47 = .ok (.getfield 32, 3) := by decide +kernel
theorem dX1_shareScarce_50 : decode cX1_shareScarce 50 = .ok (.iload 8, 2) := by decide +kernel
theorem dX1_shareScarce_52 : decode cX1_shareScarce 52 = .ok (.dup2, 1) := by decide +kernel
theorem dX1_shareScarce_53 : decode cX1_shareScarce 53 = .ok (.laload, 1) := by decide +kernel
theorem dX1_shareScarce_54 : decode cX1_shareScarce 54 = .ok (.lload 9, 2) := by decide +kernel
theorem dX1_shareScarce_56 : decode cX1_shareScarce 56 = .ok (.lsub, 1) := by decide +kernel
theorem dX1_shareScarce_57 : decode cX1_shareScarce 57 = .ok (.lastore, 1) := by decide +kernel
theorem dX1_shareScarce_58 : decode cX1_shareScarce 58 = .ok (.lload 6, 2) := by decide +kernel
theorem dX1_shareScarce_60 : decode cX1_shareScarce 60 = .ok (.lload 9, 2) := by decide +kernel
theorem dX1_shareScarce_62 : decode cX1_shareScarce 62 = .ok (.lsub, 1) := by decide +kernel
theorem dX1_shareScarce_63 : decode cX1_shareScarce 63 = .ok (.lstore 6, 2) := by decide +kernel
theorem dX1_shareScarce_65 : decode cX1_shareScarce 65 = .ok (.iinc 8 1, 3) := by decide +kernel
theorem dX1_shareScarce_68 : decode cX1_shareScarce 68 = .ok (.goto (-62), 3) := by decide +kernel
theorem dX1_shareScarce_71 : decode cX1_shareScarce 71 = .ok (.iconst 0, 1) := by decide +kernel
theorem dX1_shareScarce_72 : decode cX1_shareScarce 72 = .ok (.istore 8, 2) := by decide +kernel
theorem dX1_shareScarce_74 : decode cX1_shareScarce 74 = .ok (.iload 8, 2) := by decide +kernel
theorem dX1_shareScarce_76 : decode cX1_shareScarce 76 = .ok (.bipush 16, 2) := by decide +kernel
theorem dX1_shareScarce_78 : decode cX1_shareScarce 78 = .ok (.if_icmp .ge 50, 3) := by decide +kernel
theorem dX1_shareScarce_81 : decode cX1_shareScarce 81 = .ok (.lload 6, 2) := by decide +kernel
theorem dX1_shareScarce_83 : decode cX1_shareScarce 83 = .ok (.lconst 0, 1) := by decide +kernel
theorem dX1_shareScarce_84 : decode cX1_shareScarce 84 = .ok (.lcmp, 1) := by decide +kernel
theorem dX1_shareScarce_85 : decode cX1_shareScarce 85 = .ok (.ifCond .le 43, 3) := by decide +kernel
theorem dX1_shareScarce_88 : decode cX1_shareScarce 88 = .ok (.aload_n 0, 1) := by decide +kernel
theorem dX1_shareScarce_89 : decode cX1_shareScarce 89 = .ok (.getfield 32, 3) := by decide +kernel
theorem dX1_shareScarce_92 : decode cX1_shareScarce 92 = .ok (.iload 8, 2) := by decide +kernel
theorem dX1_shareScarce_94 : decode cX1_shareScarce 94 = .ok (.laload, 1) := by decide +kernel
theorem dX1_shareScarce_95 : decode cX1_shareScarce 95 = .ok (.lconst 0, 1) := by decide +kernel
theorem dX1_shareScarce_96 : decode cX1_shareScarce 96 = .ok (.lcmp, 1) := by decide +kernel
theorem dX1_shareScarce_97 : decode cX1_shareScarce 97 = .ok (.ifCond .le 25, 3) := by decide +kernel
theorem dX1_shareScarce_100 : decode cX1_shareScarce 100 = .ok (.aload_n 0, 1) := by decide +kernel
theorem dX1_shareScarce_101 : decode cX1_shareScarce 101 = .ok (.getfield 29, 3) := by decide +kernel
theorem dX1_shareScarce_104 : decode cX1_shareScarce 104 = .ok (.iload_n 1, 1) := by decide +kernel
theorem dX1_shareScarce_105 : decode cX1_shareScarce 105 = .ok (.bipush 16, 2) := by decide +kernel
theorem dX1_shareScarce_107 : decode cX1_shareScarce 107 = .ok (.imul, 1) := by decide +kernel
theorem dX1_shareScarce_108 : decode cX1_shareScarce 108 = .ok (.iload 8, 2) := by decide +kernel
theorem dX1_shareScarce_110 : decode cX1_shareScarce 110 = .ok (.iadd, 1) := by decide +kernel
theorem dX1_shareScarce_111 : decode cX1_shareScarce 111 = .ok (.dup2, 1) := by decide +kernel
theorem dX1_shareScarce_112 : decode cX1_shareScarce 112 = .ok (.laload, 1) := by decide +kernel
theorem dX1_shareScarce_113 : decode cX1_shareScarce 113 = .ok (.lconst 1, 1) := by decide +kernel
theorem dX1_shareScarce_114 : decode cX1_shareScarce 114 = .ok (.ladd, 1) := by decide +kernel
theorem dX1_shareScarce_115 : decode cX1_shareScarce 115 = .ok (.lastore, 1) := by decide +kernel
theorem dX1_shareScarce_116 : decode cX1_shareScarce 116 = .ok (.lload 6, 2) := by decide +kernel
theorem dX1_shareScarce_118 : decode cX1_shareScarce 118 = .ok (.lconst 1, 1) := by decide +kernel
theorem dX1_shareScarce_119 : decode cX1_shareScarce 119 = .ok (.lsub, 1) := by decide +kernel
theorem dX1_shareScarce_120 : decode cX1_shareScarce 120 = .ok (.lstore 6, 2) := by decide +kernel
theorem dX1_shareScarce_122 : decode cX1_shareScarce 122 = .ok (.iinc 8 1, 3) := by decide +kernel
theorem dX1_shareScarce_125 : decode cX1_shareScarce 125 = .ok (.goto (-51), 3) := by decide +kernel
theorem dX1_shareScarce_128 : decode cX1_shareScarce 128 = .ok (.return_, 1) := by decide +kernel
theorem dX1_owedToClaim_0 : decode cX1_owedToClaim 0 = .ok (.aload_n 0, 1) := by decide +kernel
theorem dX1_owedToClaim_1 : decode cX1_owedToClaim 1 = .ok (.getfield 26, 3) := by decide +kernel
theorem dX1_owedToClaim_4 : decode cX1_owedToClaim 4 = .ok (.iload_n 1, 1) := by decide +kernel
theorem dX1_owedToClaim_5 : decode cX1_owedToClaim 5 = .ok (.bipush 16, 2) := by decide +kernel
theorem dX1_owedToClaim_7 : decode cX1_owedToClaim 7 = .ok (.imul, 1) := by decide +kernel
theorem dX1_owedToClaim_8 : decode cX1_owedToClaim 8 = .ok (.iconst 4, 1) := by decide +kernel
theorem dX1_owedToClaim_9 : decode cX1_owedToClaim 9 = .ok (.iadd, 1) := by decide +kernel
theorem dX1_owedToClaim_10 : decode cX1_owedToClaim 10 = .ok (.iload_n 2, 1) := by decide +kernel
theorem dX1_owedToClaim_11 : decode cX1_owedToClaim 11 = .ok (.iadd, 1) := by decide +kernel
theorem dX1_owedToClaim_12 : decode cX1_owedToClaim 12 = .ok (.laload, 1) := by decide +kernel
theorem dX1_owedToClaim_13 : decode cX1_owedToClaim 13 = .ok (.lreturn, 1) := by decide +kernel
theorem dX1_owedToShip_0 : decode cX1_owedToShip 0 = .ok (.aload_n 0, 1) := by decide +kernel
theorem dX1_owedToShip_1 : decode cX1_owedToShip 1 = .ok (.getfield 26, 3) := by decide +kernel
theorem dX1_owedToShip_4 : decode cX1_owedToShip 4 = .ok (.iload_n 1, 1) := by decide +kernel
theorem dX1_owedToShip_5 : decode cX1_owedToShip 5 = .ok (.bipush 16, 2) := by decide +kernel
theorem dX1_owedToShip_7 : decode cX1_owedToShip 7 = .ok (.imul, 1) := by decide +kernel
theorem dX1_owedToShip_8 : decode cX1_owedToShip 8 = .ok (.iload_n 2, 1) := by decide +kernel
theorem dX1_owedToShip_9 : decode cX1_owedToShip 9 = .ok (.iadd, 1) := by decide +kernel
theorem dX1_owedToShip_10 : decode cX1_owedToShip 10 = .ok (.laload, 1) := by decide +kernel
theorem dX1_owedToShip_11 : decode cX1_owedToShip 11 = .ok (.lreturn, 1) := by decide +kernel
theorem dX1_owedByShip_0 : decode cX1_owedByShip 0 = .ok (.aload_n 0, 1) := by decide +kernel
theorem dX1_owedByShip_1 : decode cX1_owedByShip 1 = .ok (.getfield 26, 3) := by decide +kernel
theorem dX1_owedByShip_4 : decode cX1_owedByShip 4 = .ok (.iload_n 1, 1) := by decide +kernel
theorem dX1_owedByShip_5 : decode cX1_owedByShip 5 = .ok (.invokestatic 152, 3) := by decide +kernel
theorem dX1_owedByShip_8 : decode cX1_owedByShip 8 = .ok (.lreturn, 1) := by decide +kernel
theorem dX1_paidToClaim_0 : decode cX1_paidToClaim 0 = .ok (.aload_n 0, 1) := by decide +kernel
theorem dX1_paidToClaim_1 : decode cX1_paidToClaim 1 = .ok (.getfield 29, 3) := by decide +kernel
theorem dX1_paidToClaim_4 : decode cX1_paidToClaim 4 = .ok (.iload_n 1, 1) := by decide +kernel
theorem dX1_paidToClaim_5 : decode cX1_paidToClaim 5 = .ok (.bipush 16, 2) := by decide +kernel
theorem dX1_paidToClaim_7 : decode cX1_paidToClaim 7 = .ok (.imul, 1) := by decide +kernel
theorem dX1_paidToClaim_8 : decode cX1_paidToClaim 8 = .ok (.iconst 4, 1) := by decide +kernel
theorem dX1_paidToClaim_9 : decode cX1_paidToClaim 9 = .ok (.iadd, 1) := by decide +kernel
theorem dX1_paidToClaim_10 : decode cX1_paidToClaim 10 = .ok (.iload_n 2, 1) := by decide +kernel
theorem dX1_paidToClaim_11 : decode cX1_paidToClaim 11 = .ok (.iadd, 1) := by decide +kernel
theorem dX1_paidToClaim_12 : decode cX1_paidToClaim 12 = .ok (.laload, 1) := by decide +kernel
theorem dX1_paidToClaim_13 : decode cX1_paidToClaim 13 = .ok (.lreturn, 1) := by decide +kernel
theorem dX1_paidToShip_0 : decode cX1_paidToShip 0 = .ok (.aload_n 0, 1) := by decide +kernel
theorem dX1_paidToShip_1 : decode cX1_paidToShip 1 = .ok (.getfield 29, 3) := by decide +kernel
theorem dX1_paidToShip_4 : decode cX1_paidToShip 4 = .ok (.iload_n 1, 1) := by decide +kernel
theorem dX1_paidToShip_5 : decode cX1_paidToShip 5 = .ok (.bipush 16, 2) := by decide +kernel
theorem dX1_paidToShip_7 : decode cX1_paidToShip 7 = .ok (.imul, 1) := by decide +kernel
theorem dX1_paidToShip_8 : decode cX1_paidToShip 8 = .ok (.iload_n 2, 1) := by decide +kernel
theorem dX1_paidToShip_9 : decode cX1_paidToShip 9 = .ok (.iadd, 1) := by decide +kernel
theorem dX1_paidToShip_10 : decode cX1_paidToShip 10 = .ok (.laload, 1) := by decide +kernel
theorem dX1_paidToShip_11 : decode cX1_paidToShip 11 = .ok (.lreturn, 1) := by decide +kernel
theorem dX1_paidByShip_0 : decode cX1_paidByShip 0 = .ok (.aload_n 0, 1) := by decide +kernel
theorem dX1_paidByShip_1 : decode cX1_paidByShip 1 = .ok (.getfield 29, 3) := by decide +kernel
theorem dX1_paidByShip_4 : decode cX1_paidByShip 4 = .ok (.iload_n 1, 1) := by decide +kernel
theorem dX1_paidByShip_5 : decode cX1_paidByShip 5 = .ok (.invokestatic 152, 3) := by decide +kernel
theorem dX1_paidByShip_8 : decode cX1_paidByShip 8 = .ok (.lreturn, 1) := by decide +kernel
theorem dX1_rowTogether_0 : decode cX1_rowTogether 0 = .ok (.lconst 0, 1) := by decide +kernel
theorem dX1_rowTogether_1 : decode cX1_rowTogether 1 = .ok (.lstore_n 2, 1) := by decide +kernel
theorem dX1_rowTogether_2 : decode cX1_rowTogether 2 = .ok (.iconst 0, 1) := by decide +kernel
theorem dX1_rowTogether_3 : decode cX1_rowTogether 3 = .ok (.istore 4, 2) := by decide +kernel
theorem dX1_rowTogether_5 : decode cX1_rowTogether 5 = .ok (.iload 4, 2) := by decide +kernel
theorem dX1_rowTogether_7 : decode cX1_rowTogether 7 = .ok (.bipush 16, 2) := by decide +kernel
theorem dX1_rowTogether_9 : decode cX1_rowTogether 9 = .ok (.if_icmp .ge 21, 3) := by decide +kernel
theorem dX1_rowTogether_12 : decode cX1_rowTogether 12 = .ok (.lload_n 2, 1) := by decide +kernel
theorem dX1_rowTogether_13 : decode cX1_rowTogether 13 = .ok (.aload_n 0, 1) := by decide +kernel
theorem dX1_rowTogether_14 : decode cX1_rowTogether 14 = .ok (.iload_n 1, 1) := by decide +kernel
theorem dX1_rowTogether_15 : decode cX1_rowTogether 15 = .ok (.bipush 16, 2) := by decide +kernel
theorem dX1_rowTogether_17 : decode cX1_rowTogether 17 = .ok (.imul, 1) := by decide +kernel
theorem dX1_rowTogether_18 : decode cX1_rowTogether 18 = .ok (.iload 4, 2) := by decide +kernel
theorem dX1_rowTogether_20 : decode cX1_rowTogether 20 = .ok (.iadd, 1) := by decide +kernel
theorem dX1_rowTogether_21 : decode cX1_rowTogether 21 = .ok (.laload, 1) := by decide +kernel
theorem dX1_rowTogether_22 : decode cX1_rowTogether 22 = .ok (.ladd, 1) := by decide +kernel
theorem dX1_rowTogether_23 : decode cX1_rowTogether 23 = .ok (.lstore_n 2, 1) := by decide +kernel
theorem dX1_rowTogether_24 : decode cX1_rowTogether 24 = .ok (.iinc 4 1, 3) := by decide +kernel
theorem dX1_rowTogether_27 : decode cX1_rowTogether 27 = .ok (.goto (-22), 3) := by decide +kernel
theorem dX1_rowTogether_30 : decode cX1_rowTogether 30 = .ok (.lload_n 2, 1) := by decide +kernel
theorem dX1_rowTogether_31 : decode cX1_rowTogether 31 = .ok (.lreturn, 1) := by decide +kernel
theorem dX1_paidToClaimByAll_0 : decode cX1_paidToClaimByAll 0 = .ok (.lconst 0, 1) := by decide +kernel
theorem dX1_paidToClaimByAll_1 : decode cX1_paidToClaimByAll 1 = .ok (.lstore_n 2, 1) := by decide +kernel
theorem dX1_paidToClaimByAll_2 : decode cX1_paidToClaimByAll 2 = .ok (.iconst 0, 1) := by decide +kernel
theorem dX1_paidToClaimByAll_3 : decode cX1_paidToClaimByAll 3 = .ok (.istore 4, 2) := by decide +kernel
theorem dX1_paidToClaimByAll_5 : decode cX1_paidToClaimByAll 5 = .ok (.iload 4, 2) := by decide +kernel
theorem dX1_paidToClaimByAll_7 : decode cX1_paidToClaimByAll 7 = .ok (.aload_n 0, 1) := by decide +kernel
theorem dX1_paidToClaimByAll_8 : decode cX1_paidToClaimByAll 8 = .ok (.getfield 12, 3) := by decide +kernel
theorem dX1_paidToClaimByAll_11 : decode cX1_paidToClaimByAll 11 = .ok (.getfield 61, 3) := by decide +kernel
theorem dX1_paidToClaimByAll_14 : decode cX1_paidToClaimByAll 14 = .ok (.if_icmp .ge 19, 3) := by decide +kernel
theorem dX1_paidToClaimByAll_17 : decode cX1_paidToClaimByAll 17 = .ok (.lload_n 2, 1) := by decide +kernel
theorem dX1_paidToClaimByAll_18 : decode cX1_paidToClaimByAll 18 = .ok (.aload_n 0, 1) := by decide +kernel
theorem dX1_paidToClaimByAll_19 : decode cX1_paidToClaimByAll 19 = .ok (.iload 4, 2) := by decide +kernel
theorem dX1_paidToClaimByAll_21 : decode cX1_paidToClaimByAll 21 = .ok (.iload_n 1, 1) := by decide +kernel
theorem dX1_paidToClaimByAll_22 : decode cX1_paidToClaimByAll 22 = .ok (.invokevirtual 156, 3) := by decide +kernel
theorem dX1_paidToClaimByAll_25 : decode cX1_paidToClaimByAll 25 = .ok (.ladd, 1) := by decide +kernel
theorem dX1_paidToClaimByAll_26 : decode cX1_paidToClaimByAll 26 = .ok (.lstore_n 2, 1) := by decide +kernel
theorem dX1_paidToClaimByAll_27 : decode cX1_paidToClaimByAll 27 = .ok (.iinc 4 1, 3) := by decide +kernel
theorem dX1_paidToClaimByAll_30 : decode cX1_paidToClaimByAll 30 = .ok (.goto (-25), 3) := by decide +kernel
theorem dX1_paidToClaimByAll_33 : decode cX1_paidToClaimByAll 33 = .ok (.lload_n 2, 1) := by decide +kernel
theorem dX1_paidToClaimByAll_34 : decode cX1_paidToClaimByAll 34 = .ok (.lreturn, 1) := by decide +kernel
theorem dX1_givenBack_0 : decode cX1_givenBack 0 = .ok (.aload_n 0, 1) := by decide +kernel
theorem dX1_givenBack_1 : decode cX1_givenBack 1 = .ok (.getfield 12, 3) := by decide +kernel
theorem dX1_givenBack_4 : decode cX1_givenBack 4 = .ok (.iload_n 1, 1) := by decide +kernel
theorem dX1_givenBack_5 : decode cX1_givenBack 5 = .ok (.invokevirtual 97, 3) := by decide +kernel
theorem dX1_givenBack_8 : decode cX1_givenBack 8 = .ok (.ifCond .eq 23, 3) := by decide +kernel
theorem dX1_givenBack_11 : decode cX1_givenBack 11 = .ok (.aload_n 0, 1) := by decide +kernel
theorem dX1_givenBack_12 : decode cX1_givenBack 12 = .ok (.getfield 12, 3) := by decide +kernel
theorem dX1_givenBack_15 : decode cX1_givenBack 15 = .ok (.aload_n 0, 1) := by decide +kernel
theorem dX1_givenBack_16 : decode cX1_givenBack 16 = .ok (.getfield 12, 3) := by decide +kernel
theorem dX1_givenBack_19 : decode cX1_givenBack 19 = .ok (.iload_n 1, 1) := by decide +kernel
theorem dX1_givenBack_20 : decode cX1_givenBack 20 = .ok (.iconst 1, 1) := by decide +kernel
theorem dX1_givenBack_21 : decode cX1_givenBack 21 = .ok (.invokevirtual 94, 3) := by decide +kernel
theorem dX1_givenBack_24 : decode cX1_givenBack 24 = .ok (.iconst 4, 1) := by decide +kernel
theorem dX1_givenBack_25 : decode cX1_givenBack 25 = .ok (.invokevirtual 64, 3) := by decide +kernel
theorem dX1_givenBack_28 : decode cX1_givenBack 28 = .ok (.ifCond .ne 5, 3) := by decide +kernel
theorem dX1_givenBack_31 : decode cX1_givenBack 31 = .ok (.lconst 0, 1) := by decide +kernel
theorem dX1_givenBack_32 : decode cX1_givenBack 32 = .ok (.lreturn, 1) := by decide +kernel
theorem dX1_givenBack_33 : decode cX1_givenBack 33 = .ok (.aload_n 0, 1) := by decide +kernel
theorem dX1_givenBack_34 : decode cX1_givenBack 34 = .ok (.iload_n 1, 1) := by decide +kernel
theorem dX1_givenBack_35 : decode cX1_givenBack 35 = .ok (.invokevirtual 159, 3) := by decide +kernel
theorem dX1_givenBack_38 : decode cX1_givenBack 38 = .ok (.aload_n 0, 1) := by decide +kernel
theorem dX1_givenBack_39 : decode cX1_givenBack 39 = .ok (.iload_n 1, 1) := by decide +kernel
theorem dX1_givenBack_40 : decode cX1_givenBack 40 = .ok (.invokevirtual 163, 3) := by decide +kernel
theorem dX1_givenBack_43 : decode cX1_givenBack 43 = .ok (.invokestatic 117, 3) := by decide +kernel
theorem dX1_givenBack_46 : decode cX1_givenBack 46 = .ok (.lreturn, 1) := by decide +kernel
theorem dX1_leftToClaim_0 : decode cX1_leftToClaim 0 = .ok (.aload_n 0, 1) := by decide +kernel
theorem dX1_leftToClaim_1 : decode cX1_leftToClaim 1 = .ok (.iload_n 1, 1) := by decide +kernel
theorem dX1_leftToClaim_2 : decode cX1_leftToClaim 2 = .ok (.invokevirtual 163, 3) := by decide +kernel
theorem dX1_leftToClaim_5 : decode cX1_leftToClaim 5 = .ok (.aload_n 0, 1) := by decide +kernel
theorem dX1_leftToClaim_6 : decode cX1_leftToClaim 6 = .ok (.iload_n 1, 1) := by decide +kernel
theorem dX1_leftToClaim_7 : decode cX1_leftToClaim 7 = .ok (.invokevirtual 166, 3) := by decide +kernel
theorem dX1_leftToClaim_10 : decode cX1_leftToClaim 10 = .ok (.lsub, 1) := by decide +kernel
theorem dX1_leftToClaim_11 : decode cX1_leftToClaim 11 = .ok (.lreturn, 1) := by decide +kernel
theorem dX1_netOf_0 : decode cX1_netOf 0 = .ok (.aload_n 0, 1) := by decide +kernel
theorem dX1_netOf_1 : decode cX1_netOf 1 = .ok (.iload_n 1, 1) := by decide +kernel
theorem dX1_netOf_2 : decode cX1_netOf 2 = .ok (.invokevirtual 169, 3) := by decide +kernel
theorem dX1_netOf_5 : decode cX1_netOf 5 = .ok (.lneg, 1) := by decide +kernel
theorem dX1_netOf_6 : decode cX1_netOf 6 = .ok (.aload_n 0, 1) := by decide +kernel
theorem dX1_netOf_7 : decode cX1_netOf 7 = .ok (.getfield 12, 3) := by decide +kernel
theorem dX1_netOf_10 : decode cX1_netOf 10 = .ok (.iload_n 1, 1) := by decide +kernel
theorem dX1_netOf_11 : decode cX1_netOf 11 = .ok (.iconst 2, 1) := by decide +kernel
theorem dX1_netOf_12 : decode cX1_netOf 12 = .ok (.invokevirtual 64, 3) := by decide +kernel
theorem dX1_netOf_15 : decode cX1_netOf 15 = .ok (.i2l, 1) := by decide +kernel
theorem dX1_netOf_16 : decode cX1_netOf 16 = .ok (.lsub, 1) := by decide +kernel
theorem dX1_netOf_17 : decode cX1_netOf 17 = .ok (.lstore_n 2, 1) := by decide +kernel
theorem dX1_netOf_18 : decode cX1_netOf 18 = .ok (.iconst 0, 1) := by decide +kernel
theorem dX1_netOf_19 : decode cX1_netOf 19 = .ok (.istore 4, 2) := by decide +kernel
theorem dX1_netOf_21 : decode cX1_netOf 21 = .ok (.iload 4, 2) := by decide +kernel
theorem dX1_netOf_23 : decode cX1_netOf 23 = .ok (.aload_n 0, 1) := by decide +kernel
theorem dX1_netOf_24 : decode cX1_netOf 24 = .ok (.getfield 12, 3) := by decide +kernel
theorem dX1_netOf_27 : decode cX1_netOf 27 = .ok (.getfield 61, 3) := by decide +kernel
theorem dX1_netOf_30 : decode cX1_netOf 30 = .ok (.if_icmp .ge 19, 3) := by decide +kernel
theorem dX1_netOf_33 : decode cX1_netOf 33 = .ok (.lload_n 2, 1) := by decide +kernel
theorem dX1_netOf_34 : decode cX1_netOf 34 = .ok (.aload_n 0, 1) := by decide +kernel
theorem dX1_netOf_35 : decode cX1_netOf 35 = .ok (.iload 4, 2) := by decide +kernel
theorem dX1_netOf_37 : decode cX1_netOf 37 = .ok (.iload_n 1, 1) := by decide +kernel
theorem dX1_netOf_38 : decode cX1_netOf 38 = .ok (.invokevirtual 172, 3) := by decide +kernel
theorem dX1_netOf_41 : decode cX1_netOf 41 = .ok (.ladd, 1) := by decide +kernel
theorem dX1_netOf_42 : decode cX1_netOf 42 = .ok (.lstore_n 2, 1) := by decide +kernel
theorem dX1_netOf_43 : decode cX1_netOf 43 = .ok (.iinc 4 1, 3) := by decide +kernel
theorem dX1_netOf_46 : decode cX1_netOf 46 = .ok (.goto (-25), 3) := by decide +kernel
theorem dX1_netOf_49 : decode cX1_netOf 49 = .ok (.iconst 0, 1) := by decide +kernel
theorem dX1_netOf_50 : decode cX1_netOf 50 = .ok (.istore 4, 2) := by decide +kernel
theorem dX1_netOf_52 : decode cX1_netOf 52 = .ok (.iload 4, 2) := by decide +kernel
theorem dX1_netOf_54 : decode cX1_netOf 54 = .ok (.aload_n 0, 1) := by decide +kernel
theorem dX1_netOf_55 : decode cX1_netOf 55 = .ok (.getfield 12, 3) := by decide +kernel
theorem dX1_netOf_58 : decode cX1_netOf 58 = .ok (.getfield 84, 3) := by decide +kernel
theorem dX1_netOf_61 : decode cX1_netOf 61 = .ok (.if_icmp .ge 32, 3) := by decide +kernel
theorem dX1_netOf_64 : decode cX1_netOf 64 = .ok (.aload_n 0, 1) := by decide +kernel
theorem dX1_netOf_65 : decode cX1_netOf 65 = .ok (.getfield 12, 3) := by decide +kernel
theorem dX1_netOf_68 : decode cX1_netOf 68 = .ok (.iload 4, 2) := by decide +kernel
theorem dX1_netOf_70 : decode cX1_netOf 70 = .ok (.iconst 1, 1) := by decide +kernel
theorem dX1_netOf_71 : decode cX1_netOf 71 = .ok (.invokevirtual 94, 3) := by decide +kernel
theorem dX1_netOf_74 : decode cX1_netOf 74 = .ok (.iload_n 1, 1) := by decide +kernel
theorem dX1_netOf_75 : decode cX1_netOf 75 = .ok (.if_icmp .ne 12, 3) := by decide +kernel
theorem dX1_netOf_78 : decode cX1_netOf 78 = .ok (.lload_n 2, 1) := by decide +kernel
theorem dX1_netOf_79 : decode cX1_netOf 79 = .ok (.aload_n 0, 1) := by decide +kernel
theorem dX1_netOf_80 : decode cX1_netOf 80 = .ok (.iload 4, 2) := by decide +kernel
theorem dX1_netOf_82 : decode cX1_netOf 82 = .ok (.invokevirtual 166, 3) := by decide +kernel
theorem dX1_netOf_85 : decode cX1_netOf 85 = .ok (.ladd, 1) := by decide +kernel
theorem dX1_netOf_86 : decode cX1_netOf 86 = .ok (.lstore_n 2, 1) := by decide +kernel
theorem dX1_netOf_87 : decode cX1_netOf 87 = .ok (.iinc 4 1, 3) := by decide +kernel
theorem dX1_netOf_90 : decode cX1_netOf 90 = .ok (.goto (-38), 3) := by decide +kernel
theorem dX1_netOf_93 : decode cX1_netOf 93 = .ok (.lload_n 2, 1) := by decide +kernel
theorem dX1_netOf_94 : decode cX1_netOf 94 = .ok (.lreturn, 1) := by decide +kernel
theorem dX1_paidToPersons_0 : decode cX1_paidToPersons 0 = .ok (.lconst 0, 1) := by decide +kernel
theorem dX1_paidToPersons_1 : decode cX1_paidToPersons 1 = .ok (.lstore_n 2, 1) := by decide +kernel
theorem dX1_paidToPersons_2 : decode cX1_paidToPersons 2 = .ok (.iconst 0, 1) := by decide +kernel
theorem dX1_paidToPersons_3 : decode cX1_paidToPersons 3 = .ok (.istore 4, 2) := by decide +kernel
theorem dX1_paidToPersons_5 : decode cX1_paidToPersons 5 = .ok (.iload 4, 2) := by decide +kernel
theorem dX1_paidToPersons_7 : decode cX1_paidToPersons 7 = .ok (.aload_n 0, 1) := by decide +kernel
theorem dX1_paidToPersons_8 : decode cX1_paidToPersons 8 = .ok (.getfield 12, 3) := by decide +kernel
theorem dX1_paidToPersons_11 : decode cX1_paidToPersons 11 = .ok (.getfield 84, 3) := by decide +kernel
theorem dX1_paidToPersons_14 : decode cX1_paidToPersons 14 = .ok (.if_icmp .ge 33, 3) := by decide +kernel
theorem dX1_paidToPersons_17 : decode cX1_paidToPersons 17 = .ok (.aload_n 0, 1) := by decide +kernel
theorem dX1_paidToPersons_18 : decode cX1_paidToPersons 18 = .ok (.getfield 12, 3) := by decide +kernel
theorem dX1_paidToPersons_21 : decode cX1_paidToPersons 21 = .ok (.iload 4, 2) := by decide +kernel
theorem dX1_paidToPersons_23 : decode cX1_paidToPersons 23 = .ok (.iconst 0, 1) := by decide +kernel
theorem dX1_paidToPersons_24 : decode cX1_paidToPersons 24 = .ok (.invokevirtual 94, 3) := by decide +kernel
theorem dX1_paidToPersons_27 : decode cX1_paidToPersons 27 = .ok (.iconst 1, 1) := by decide +kernel
theorem dX1_paidToPersons_28 : decode cX1_paidToPersons 28 = .ok (.if_icmp .ne 13, 3) := by decide +kernel
theorem dX1_paidToPersons_31 : decode cX1_paidToPersons 31 = .ok (.lload_n 2, 1) := by decide +kernel
theorem dX1_paidToPersons_32 : decode cX1_paidToPersons 32 = .ok (.aload_n 0, 1) := by decide +kernel
theorem dX1_paidToPersons_33 : decode cX1_paidToPersons 33 = .ok (.iload_n 1, 1) := by decide +kernel
theorem dX1_paidToPersons_34 : decode cX1_paidToPersons 34 = .ok (.iload 4, 2) := by decide +kernel
theorem dX1_paidToPersons_36 : decode cX1_paidToPersons 36 = .ok (.invokevirtual 156, 3) := by decide +kernel
theorem dX1_paidToPersons_39 : decode cX1_paidToPersons 39 = .ok (.ladd, 1) := by decide +kernel
theorem dX1_paidToPersons_40 : decode cX1_paidToPersons 40 = .ok (.lstore_n 2, 1) := by decide +kernel
theorem dX1_paidToPersons_41 : decode cX1_paidToPersons 41 = .ok (.iinc 4 1, 3) := by decide +kernel
theorem dX1_paidToPersons_44 : decode cX1_paidToPersons 44 = .ok (.goto (-39), 3) := by decide +kernel
theorem dX1_paidToPersons_47 : decode cX1_paidToPersons 47 = .ok (.lload_n 2, 1) := by decide +kernel
theorem dX1_paidToPersons_48 : decode cX1_paidToPersons 48 = .ok (.lreturn, 1) := by decide +kernel
theorem dX1_threeQuarters_0 : decode cX1_threeQuarters 0 = .ok (.lload_n 0, 1) := by decide +kernel
theorem dX1_threeQuarters_1 : decode cX1_threeQuarters 1 = .ok (.ldc2_w 175, 3) := by decide +kernel
theorem dX1_threeQuarters_4 : decode cX1_threeQuarters 4 = .ok (.lmul, 1) := by decide +kernel
theorem dX1_threeQuarters_5 : decode cX1_threeQuarters 5 = .ok (.ldc2_w 177, 3) := by decide +kernel
theorem dX1_threeQuarters_8 : decode cX1_threeQuarters 8 = .ok (.ldiv, 1) := by decide +kernel
theorem dX1_threeQuarters_9 : decode cX1_threeQuarters 9 = .ok (.lreturn, 1) := by decide +kernel
theorem dX1_coveredOf_0 : decode cX1_coveredOf 0 = .ok (.aload_n 0, 1) := by decide +kernel
theorem dX1_coveredOf_1 : decode cX1_coveredOf 1 = .ok (.iload_n 1, 1) := by decide +kernel
theorem dX1_coveredOf_2 : decode cX1_coveredOf 2 = .ok (.invokevirtual 169, 3) := by decide +kernel
theorem dX1_coveredOf_5 : decode cX1_coveredOf 5 = .ok (.aload_n 0, 1) := by decide +kernel
theorem dX1_coveredOf_6 : decode cX1_coveredOf 6 = .ok (.iload_n 1, 1) := by decide +kernel
theorem dX1_coveredOf_7 : decode cX1_coveredOf 7 = .ok (.invokevirtual 179, 3) := by decide +kernel
theorem dX1_coveredOf_10 : decode cX1_coveredOf 10 = .ok (.lsub, 1) := by decide +kernel
theorem dX1_coveredOf_11 : decode cX1_coveredOf 11 = .ok (.invokestatic 182, 3) := by decide +kernel
theorem dX1_coveredOf_14 : decode cX1_coveredOf 14 = .ok (.lstore_n 2, 1) := by decide +kernel
theorem dX1_coveredOf_15 : decode cX1_coveredOf 15 = .ok (.lload_n 2, 1) := by decide +kernel
theorem dX1_coveredOf_16 : decode cX1_coveredOf 16 = .ok (.aload_n 0, 1) := by decide +kernel
theorem dX1_coveredOf_17 : decode cX1_coveredOf 17 = .ok (.getfield 12, 3) := by decide +kernel
theorem dX1_coveredOf_20 : decode cX1_coveredOf 20 = .ok (.iload_n 1, 1) := by decide +kernel
theorem dX1_coveredOf_21 : decode cX1_coveredOf 21 = .ok (.iconst 3, 1) := by decide +kernel
theorem dX1_coveredOf_22 : decode cX1_coveredOf 22 = .ok (.invokevirtual 64, 3) := by decide +kernel
theorem dX1_coveredOf_25 : decode cX1_coveredOf 25 = .ok (.i2l, 1) := by decide +kernel
theorem dX1_coveredOf_26 : decode cX1_coveredOf 26 = .ok (.invokestatic 182, 3) := by decide +kernel
theorem dX1_coveredOf_29 : decode cX1_coveredOf 29 = .ok (.invokestatic 117, 3) := by decide +kernel
theorem dX1_coveredOf_32 : decode cX1_coveredOf 32 = .ok (.lreturn, 1) := by decide +kernel
theorem dX1_owedToPersons_0 : decode cX1_owedToPersons 0 = .ok (.lconst 0, 1) := by decide +kernel
theorem dX1_owedToPersons_1 : decode cX1_owedToPersons 1 = .ok (.lstore_n 2, 1) := by decide +kernel
theorem dX1_owedToPersons_2 : decode cX1_owedToPersons 2 = .ok (.iconst 0, 1) := by decide +kernel
theorem dX1_owedToPersons_3 : decode cX1_owedToPersons 3 = .ok (.istore 4, 2) := by decide +kernel
theorem dX1_owedToPersons_5 : decode cX1_owedToPersons 5 = .ok (.iload 4, 2) := by decide +kernel
theorem dX1_owedToPersons_7 : decode cX1_owedToPersons 7 = .ok (.aload_n 0, 1) := by decide +kernel
theorem dX1_owedToPersons_8 : decode cX1_owedToPersons 8 = .ok (.getfield 12, 3) := by decide +kernel
theorem dX1_owedToPersons_11 : decode cX1_owedToPersons 11 = .ok (.getfield 84, 3) := by decide +kernel
theorem dX1_owedToPersons_14 : decode cX1_owedToPersons 14 = .ok (.if_icmp .ge 33, 3) := by decide +kernel
theorem dX1_owedToPersons_17 : decode cX1_owedToPersons 17 = .ok (.aload_n 0, 1) := by decide +kernel
theorem dX1_owedToPersons_18 : decode cX1_owedToPersons 18 = .ok (.getfield 12, 3) := by decide +kernel
theorem dX1_owedToPersons_21 : decode cX1_owedToPersons 21 = .ok (.iload 4, 2) := by decide +kernel
theorem dX1_owedToPersons_23 : decode cX1_owedToPersons 23 = .ok (.iconst 0, 1) := by decide +kernel
theorem dX1_owedToPersons_24 : decode cX1_owedToPersons 24 = .ok (.invokevirtual 94, 3) := by decide +kernel
theorem dX1_owedToPersons_27 : decode cX1_owedToPersons 27 = .ok (.iconst 1, 1) := by decide +kernel
theorem dX1_owedToPersons_28 : decode cX1_owedToPersons 28 = .ok (.if_icmp .ne 13, 3) := by decide +kernel
theorem dX1_owedToPersons_31 : decode cX1_owedToPersons 31 = .ok (.lload_n 2, 1) := by decide +kernel
theorem dX1_owedToPersons_32 : decode cX1_owedToPersons 32 = .ok (.aload_n 0, 1) := by decide +kernel
theorem dX1_owedToPersons_33 : decode cX1_owedToPersons 33 = .ok (.iload_n 1, 1) := by decide +kernel
theorem dX1_owedToPersons_34 : decode cX1_owedToPersons 34 = .ok (.iload 4, 2) := by decide +kernel
theorem dX1_owedToPersons_36 : decode cX1_owedToPersons 36 = .ok (.invokevirtual 108, 3) := by decide +kernel
theorem dX1_owedToPersons_39 : decode cX1_owedToPersons 39 = .ok (.ladd, 1) := by decide +kernel
theorem dX1_owedToPersons_40 : decode cX1_owedToPersons 40 = .ok (.lstore_n 2, 1) := by decide +kernel
theorem dX1_owedToPersons_41 : decode cX1_owedToPersons 41 = .ok (.iinc 4 1, 3) := by decide +kernel
theorem dX1_owedToPersons_44 : decode cX1_owedToPersons 44 = .ok (.goto (-39), 3) := by decide +kernel
theorem dX1_owedToPersons_47 : decode cX1_owedToPersons 47 = .ok (.lload_n 2, 1) := by decide +kernel
theorem dX1_owedToPersons_48 : decode cX1_owedToPersons 48 = .ok (.lreturn, 1) := by decide +kernel
theorem dX1_rateNeeded_0 : decode cX1_rateNeeded 0 = .ok (.aload_n 0, 1) := by decide +kernel
theorem dX1_rateNeeded_1 : decode cX1_rateNeeded 1 = .ok (.getfield 12, 3) := by decide +kernel
theorem dX1_rateNeeded_4 : decode cX1_rateNeeded 4 = .ok (.iload_n 1, 1) := by decide +kernel
theorem dX1_rateNeeded_5 : decode cX1_rateNeeded 5 = .ok (.iconst 5, 1) := by decide +kernel
theorem dX1_rateNeeded_6 : decode cX1_rateNeeded 6 = .ok (.invokevirtual 64, 3) := by decide +kernel
theorem dX1_rateNeeded_9 : decode cX1_rateNeeded 9 = .ok (.iconst 1, 1) := by decide +kernel
theorem dX1_rateNeeded_10 : decode cX1_rateNeeded 10 = .ok (.if_icmp .ne 5, 3) := by decide +kernel
theorem dX1_rateNeeded_13 : decode cX1_rateNeeded 13 = .ok (.lconst 0, 1) := by decide +kernel
theorem dX1_rateNeeded_14 : decode cX1_rateNeeded 14 = .ok (.lreturn, 1) := by decide +kernel
theorem dX1_rateNeeded_15 : decode cX1_rateNeeded 15 = .ok (.aload_n 0, 1) := by decide +kernel
theorem dX1_rateNeeded_16 : decode cX1_rateNeeded 16 = .ok (.iload_n 1, 1) := by decide +kernel
theorem dX1_rateNeeded_17 : decode cX1_rateNeeded 17 = .ok (.invokevirtual 186, 3) := by decide +kernel
theorem dX1_rateNeeded_20 : decode cX1_rateNeeded 20 = .ok (.lstore_n 2, 1) := by decide +kernel
theorem dX1_rateNeeded_21 : decode cX1_rateNeeded 21 = .ok (.aload_n 0, 1) := by decide +kernel
theorem dX1_rateNeeded_22 : decode cX1_rateNeeded 22 = .ok (.iload_n 1, 1) := by decide +kernel
theorem dX1_rateNeeded_23 : decode cX1_rateNeeded 23 = .ok (.invokevirtual 189, 3) := by decide +kernel
theorem dX1_rateNeeded_26 : decode cX1_rateNeeded 26 = .ok (.lload_n 2, 1) := by decide +kernel
theorem dX1_rateNeeded_27 : decode cX1_rateNeeded 27 = .ok (.aload_n 0, 1) := by decide +kernel
theorem dX1_rateNeeded_28 : decode cX1_rateNeeded 28 = .ok (.getfield 12, 3) := by decide +kernel
theorem dX1_rateNeeded_31 : decode cX1_rateNeeded 31 = .ok (.iload_n 1, 1) := by decide +kernel
theorem dX1_rateNeeded_32 : decode cX1_rateNeeded 32 = .ok (.bipush 6, 2) := by decide +kernel
theorem dX1_rateNeeded_34 : decode cX1_rateNeeded 34 = .ok (.invokevirtual 134, 3) := by decide +kernel
theorem dX1_rateNeeded_37 : decode cX1_rateNeeded 37 = .ok (.invokestatic 117, 3) := by decide +kernel
theorem dX1_rateNeeded_40 : decode cX1_rateNeeded 40 = .ok (.lsub, 1) := by decide +kernel
theorem dX1_rateNeeded_41 : decode cX1_rateNeeded 41 = .ok (.lstore 4, 2) := by decide +kernel
theorem dX1_rateNeeded_43 : decode cX1_rateNeeded 43 = .ok (.aload_n 0, 1) := by decide +kernel
theorem dX1_rateNeeded_44 : decode cX1_rateNeeded 44 = .ok (.getfield 12, 3) := by decide +kernel
theorem dX1_rateNeeded_47 : decode cX1_rateNeeded 47 = .ok (.iload_n 1, 1) := by decide +kernel
theorem dX1_rateNeeded_48 : decode cX1_rateNeeded 48 = .ok (.invokevirtual 192, 3) := by decide +kernel
theorem dX1_rateNeeded_51 : decode cX1_rateNeeded 51 = .ok (.lstore 6, 2) := by decide +kernel
theorem dX1_rateNeeded_53 : decode cX1_rateNeeded 53 = .ok (.lload 4, 2) := by decide +kernel
theorem dX1_rateNeeded_55 : decode cX1_rateNeeded 55 = .ok (.lload 6, 2) := by decide +kernel
theorem dX1_rateNeeded_57 : decode cX1_rateNeeded 57 = .ok (.ladd, 1) := by decide +kernel
theorem dX1_rateNeeded_58 : decode cX1_rateNeeded 58 = .ok (.lconst 1, 1) := by decide +kernel
theorem dX1_rateNeeded_59 : decode cX1_rateNeeded 59 = .ok (.lsub, 1) := by decide +kernel
theorem dX1_rateNeeded_60 : decode cX1_rateNeeded 60 = .ok (.lload 6, 2) := by decide +kernel
theorem dX1_rateNeeded_62 : decode cX1_rateNeeded 62 = .ok (.invokestatic 80, 3) := by decide +kernel
theorem dX1_rateNeeded_65 : decode cX1_rateNeeded 65 = .ok (.lreturn, 1) := by decide +kernel
theorem dX2_init_0 : decode cX2_init 0 = .ok (.aload_n 0, 1) := by decide +kernel
theorem dX2_init_1 : decode cX2_init 1 = .ok (.invokespecial 3, 3) := by decide +kernel
theorem dX2_init_4 : decode cX2_init 4 = .ok (.aload_n 0, 1) := by decide +kernel
theorem dX2_init_5 : decode cX2_init 5 = .ok (.iconst 0, 1) := by decide +kernel
theorem dX2_init_6 : decode cX2_init 6 = .ok (.putfield 9, 3) := by decide +kernel
theorem dX2_init_9 : decode cX2_init 9 = .ok (.aload_n 0, 1) := by decide +kernel
theorem dX2_init_10 : decode cX2_init 10 = .ok (.iconst 0, 1) := by decide +kernel
theorem dX2_init_11 : decode cX2_init 11 = .ok (.putfield 15, 3) := by decide +kernel
theorem dX2_init_14 : decode cX2_init 14 = .ok (.aload_n 0, 1) := by decide +kernel
theorem dX2_init_15 : decode cX2_init 15 = .ok (.iconst 4, 1) := by decide +kernel
theorem dX2_init_16 : decode cX2_init 16 = .ok (.newarray .long, 2) := by decide +kernel
theorem dX2_init_18 : decode cX2_init 18 = .ok (.putfield 18, 3) := by decide +kernel
theorem dX2_init_21 : decode cX2_init 21 = .ok (.aload_n 0, 1) := by decide +kernel
theorem dX2_init_22 : decode cX2_init 22 = .ok (.bipush 24, 2) := by decide +kernel
theorem dX2_init_24 : decode cX2_init 24 = .ok (.newarray .int, 2) := by decide +kernel
theorem dX2_init_26 : decode cX2_init 26 = .ok (.putfield 22, 3) := by decide +kernel
theorem dX2_init_29 : decode cX2_init 29 = .ok (.aload_n 0, 1) := by decide +kernel
theorem dX2_init_30 : decode cX2_init 30 = .ok (.bipush 48, 2) := by decide +kernel
theorem dX2_init_32 : decode cX2_init 32 = .ok (.newarray .int, 2) := by decide +kernel
theorem dX2_init_34 : decode cX2_init 34 = .ok (.putfield 26, 3) := by decide +kernel
theorem dX2_init_37 : decode cX2_init 37 = .ok (.aload_n 0, 1) := by decide +kernel
theorem dX2_init_38 : decode cX2_init 38 = .ok (.bipush 10, 2) := by decide +kernel
theorem dX2_init_40 : decode cX2_init 40 = .ok (.newarray .int, 2) := by decide +kernel
theorem dX2_init_42 : decode cX2_init 42 = .ok (.putfield 29, 3) := by decide +kernel
theorem dX2_init_45 : decode cX2_init 45 = .ok (.return_, 1) := by decide +kernel
theorem dX2_clear_0 : decode cX2_clear 0 = .ok (.aload_n 0, 1) := by decide +kernel
theorem dX2_clear_1 : decode cX2_clear 1 = .ok (.iconst 0, 1) := by decide +kernel
theorem dX2_clear_2 : decode cX2_clear 2 = .ok (.putfield 9, 3) := by decide +kernel
theorem dX2_clear_5 : decode cX2_clear 5 = .ok (.aload_n 0, 1) := by decide +kernel
theorem dX2_clear_6 : decode cX2_clear 6 = .ok (.iconst 0, 1) := by decide +kernel
theorem dX2_clear_7 : decode cX2_clear 7 = .ok (.putfield 15, 3) := by decide +kernel
theorem dX2_clear_10 : decode cX2_clear 10 = .ok (.getstatic 32, 3) := by decide +kernel
theorem dX2_clear_13 : decode cX2_clear 13 = .ok (.iconst 0, 1) := by decide +kernel
theorem dX2_clear_14 : decode cX2_clear 14 = .ok (.aload_n 0, 1) := by decide +kernel
theorem dX2_clear_15 : decode cX2_clear 15 = .ok (.getfield 29, 3) := by decide +kernel
theorem dX2_clear_18 : decode cX2_clear 18 = .ok (.iconst 0, 1) := by decide +kernel
theorem dX2_clear_19 : decode cX2_clear 19 = .ok (.bipush 10, 2) := by decide +kernel
theorem dX2_clear_21 : decode cX2_clear 21 = .ok (.invokestatic 35, 3) := by decide +kernel
theorem dX2_clear_24 : decode cX2_clear 24 = .ok (.return_, 1) := by decide +kernel
theorem dX2_copyFrom_0 : decode cX2_copyFrom 0 = .ok (.aload_n 0, 1) := by decide +kernel
theorem dX2_copyFrom_1 : decode cX2_copyFrom 1 = .ok (.aload_n 1, 1) := by decide +kernel
theorem dX2_copyFrom_2 : decode cX2_copyFrom 2 = .ok (.getfield 9, 3) := by decide +kernel
theorem dX2_copyFrom_5 : decode cX2_copyFrom 5 = .ok (.putfield 9, 3) := by decide +kernel
theorem dX2_copyFrom_8 : decode cX2_copyFrom 8 = .ok (.aload_n 0, 1) := by decide +kernel
theorem dX2_copyFrom_9 : decode cX2_copyFrom 9 = .ok (.aload_n 1, 1) := by decide +kernel
theorem dX2_copyFrom_10 : decode cX2_copyFrom 10 = .ok (.getfield 15, 3) := by decide +kernel
theorem dX2_copyFrom_13 : decode cX2_copyFrom 13 = .ok (.putfield 15, 3) := by decide +kernel
theorem dX2_copyFrom_16 : decode cX2_copyFrom 16 = .ok (.aload_n 1, 1) := by decide +kernel
theorem dX2_copyFrom_17 : decode cX2_copyFrom 17 = .ok (.getfield 18, 3) := by decide +kernel
theorem dX2_copyFrom_20 : decode cX2_copyFrom 20 = .ok (.iconst 0, 1) := by decide +kernel
theorem dX2_copyFrom_21 : decode cX2_copyFrom 21 = .ok (.aload_n 0, 1) := by decide +kernel
theorem dX2_copyFrom_22 : decode cX2_copyFrom 22 = .ok (.getfield 18, 3) := by decide +kernel
theorem dX2_copyFrom_25 : decode cX2_copyFrom 25 = .ok (.iconst 0, 1) := by decide +kernel
theorem dX2_copyFrom_26 : decode cX2_copyFrom 26 = .ok (.aload_n 0, 1) := by decide +kernel
theorem dX2_copyFrom_27 : decode cX2_copyFrom 27 = .ok (.getfield 18, 3) := by decide +kernel
theorem dX2_copyFrom_30 : decode cX2_copyFrom 30 = .ok (.arraylength, 1) := by decide +kernel
theorem dX2_copyFrom_31 : decode cX2_copyFrom 31 = .ok (.invokestatic 35, 3) := by decide +kernel
theorem dX2_copyFrom_34 : decode cX2_copyFrom 34 = .ok (.aload_n 1, 1) := by decide +kernel
theorem dX2_copyFrom_35 : decode cX2_copyFrom 35 = .ok (.getfield 22, 3) := by decide +kernel
theorem dX2_copyFrom_38 : decode cX2_copyFrom 38 = .ok (.iconst 0, 1) := by decide +kernel
theorem dX2_copyFrom_39 : decode cX2_copyFrom 39 = .ok (.aload_n 0, 1) := by decide +kernel
theorem dX2_copyFrom_40 : decode cX2_copyFrom 40 = .ok (.getfield 22, 3) := by decide +kernel
theorem dX2_copyFrom_43 : decode cX2_copyFrom 43 = .ok (.iconst 0, 1) := by decide +kernel
theorem dX2_copyFrom_44 : decode cX2_copyFrom 44 = .ok (.aload_n 0, 1) := by decide +kernel
theorem dX2_copyFrom_45 : decode cX2_copyFrom 45 = .ok (.getfield 22, 3) := by decide +kernel
theorem dX2_copyFrom_48 : decode cX2_copyFrom 48 = .ok (.arraylength, 1) := by decide +kernel
theorem dX2_copyFrom_49 : decode cX2_copyFrom 49 = .ok (.invokestatic 35, 3) := by decide +kernel
theorem dX2_copyFrom_52 : decode cX2_copyFrom 52 = .ok (.aload_n 1, 1) := by decide +kernel
theorem dX2_copyFrom_53 : decode cX2_copyFrom 53 = .ok (.getfield 26, 3) := by decide +kernel
theorem dX2_copyFrom_56 : decode cX2_copyFrom 56 = .ok (.iconst 0, 1) := by decide +kernel
theorem dX2_copyFrom_57 : decode cX2_copyFrom 57 = .ok (.aload_n 0, 1) := by decide +kernel
theorem dX2_copyFrom_58 : decode cX2_copyFrom 58 = .ok (.getfield 26, 3) := by decide +kernel
theorem dX2_copyFrom_61 : decode cX2_copyFrom 61 = .ok (.iconst 0, 1) := by decide +kernel
theorem dX2_copyFrom_62 : decode cX2_copyFrom 62 = .ok (.aload_n 0, 1) := by decide +kernel
theorem dX2_copyFrom_63 : decode cX2_copyFrom 63 = .ok (.getfield 26, 3) := by decide +kernel
theorem dX2_copyFrom_66 : decode cX2_copyFrom 66 = .ok (.arraylength, 1) := by decide +kernel
theorem dX2_copyFrom_67 : decode cX2_copyFrom 67 = .ok (.invokestatic 35, 3) := by decide +kernel
theorem dX2_copyFrom_70 : decode cX2_copyFrom 70 = .ok (.aload_n 1, 1) := by decide +kernel
theorem dX2_copyFrom_71 : decode cX2_copyFrom 71 = .ok (.getfield 29, 3) := by decide +kernel
theorem dX2_copyFrom_74 : decode cX2_copyFrom 74 = .ok (.iconst 0, 1) := by decide +kernel
theorem dX2_copyFrom_75 : decode cX2_copyFrom 75 = .ok (.aload_n 0, 1) := by decide +kernel
theorem dX2_copyFrom_76 : decode cX2_copyFrom 76 = .ok (.getfield 29, 3) := by decide +kernel
theorem dX2_copyFrom_79 : decode cX2_copyFrom 79 = .ok (.iconst 0, 1) := by decide +kernel
theorem dX2_copyFrom_80 : decode cX2_copyFrom 80 = .ok (.aload_n 0, 1) := by decide +kernel
theorem dX2_copyFrom_81 : decode cX2_copyFrom 81 = .ok (.getfield 29, 3) := by decide +kernel
theorem dX2_copyFrom_84 : decode cX2_copyFrom 84 = .ok (.arraylength, 1) := by decide +kernel
theorem dX2_copyFrom_85 : decode cX2_copyFrom 85 = .ok (.invokestatic 35, 3) := by decide +kernel
theorem dX2_copyFrom_88 : decode cX2_copyFrom 88 = .ok (.return_, 1) := by decide +kernel
theorem dX2_ofShip_0 : decode cX2_ofShip 0 = .ok (.aload_n 0, 1) := by decide +kernel
theorem dX2_ofShip_1 : decode cX2_ofShip 1 = .ok (.getfield 22, 3) := by decide +kernel
theorem dX2_ofShip_4 : decode cX2_ofShip 4 = .ok (.iload_n 1, 1) := by decide +kernel
theorem dX2_ofShip_5 : decode cX2_ofShip 5 = .ok (.bipush 6, 2) := by decide +kernel
theorem dX2_ofShip_7 : decode cX2_ofShip 7 = .ok (.imul, 1) := by decide +kernel
theorem dX2_ofShip_8 : decode cX2_ofShip 8 = .ok (.iload_n 2, 1) := by decide +kernel
theorem dX2_ofShip_9 : decode cX2_ofShip 9 = .ok (.iadd, 1) := by decide +kernel
theorem dX2_ofShip_10 : decode cX2_ofShip 10 = .ok (.iaload, 1) := by decide +kernel
theorem dX2_ofShip_11 : decode cX2_ofShip 11 = .ok (.ireturn, 1) := by decide +kernel
theorem dX2_setShip_0 : decode cX2_setShip 0 = .ok (.aload_n 0, 1) := by decide +kernel
theorem dX2_setShip_1 : decode cX2_setShip 1 = .ok (.getfield 22, 3) := by decide +kernel
theorem dX2_setShip_4 : decode cX2_setShip 4 = .ok (.iload_n 1, 1) := by decide +kernel
theorem dX2_setShip_5 : decode cX2_setShip 5 = .ok (.bipush 6, 2) := by decide +kernel
theorem dX2_setShip_7 : decode cX2_setShip 7 = .ok (.imul, 1) := by decide +kernel
theorem dX2_setShip_8 : decode cX2_setShip 8 = .ok (.iload_n 2, 1) := by decide +kernel
theorem dX2_setShip_9 : decode cX2_setShip 9 = .ok (.iadd, 1) := by decide +kernel
theorem dX2_setShip_10 : decode cX2_setShip 10 = .ok (.iload_n 3, 1) := by decide +kernel
theorem dX2_setShip_11 : decode cX2_setShip 11 = .ok (.iastore, 1) := by decide +kernel
theorem dX2_setShip_12 : decode cX2_setShip 12 = .ok (.return_, 1) := by decide +kernel
theorem dX2_ofClaim_0 : decode cX2_ofClaim 0 = .ok (.aload_n 0, 1) := by decide +kernel
theorem dX2_ofClaim_1 : decode cX2_ofClaim 1 = .ok (.getfield 26, 3) := by decide +kernel
theorem dX2_ofClaim_4 : decode cX2_ofClaim 4 = .ok (.iload_n 1, 1) := by decide +kernel
theorem dX2_ofClaim_5 : decode cX2_ofClaim 5 = .ok (.iconst 4, 1) := by decide +kernel
theorem dX2_ofClaim_6 : decode cX2_ofClaim 6 = .ok (.imul, 1) := by decide +kernel
theorem dX2_ofClaim_7 : decode cX2_ofClaim 7 = .ok (.iload_n 2, 1) := by decide +kernel
theorem dX2_ofClaim_8 : decode cX2_ofClaim 8 = .ok (.iadd, 1) := by decide +kernel
theorem dX2_ofClaim_9 : decode cX2_ofClaim 9 = .ok (.iaload, 1) := by decide +kernel
theorem dX2_ofClaim_10 : decode cX2_ofClaim 10 = .ok (.ireturn, 1) := by decide +kernel
theorem dX2_holds_0 : decode cX2_holds 0 = .ok (.aload_n 0, 1) := by decide +kernel
theorem dX2_holds_1 : decode cX2_holds 1 = .ok (.getfield 29, 3) := by decide +kernel
theorem dX2_holds_4 : decode cX2_holds 4 = .ok (.iload_n 1, 1) := by decide +kernel
theorem dX2_holds_5 : decode cX2_holds 5 = .ok (.iaload, 1) := by decide +kernel
theorem dX2_holds_6 : decode cX2_holds 6 = .ok (.iconst 1, 1) := by decide +kernel
theorem dX2_holds_7 : decode cX2_holds 7 = .ok (.if_icmp .ne 7, 3) := by decide +kernel
theorem dX2_holds_10 : decode cX2_holds 10 = .ok (.iconst 1, 1) := by decide +kernel
theorem dX2_holds_11 : decode cX2_holds 11 = .ok (.goto 4, 3) := by decide +kernel
theorem dX2_holds_14 : decode cX2_holds 14 = .ok (.iconst 0, 1) := by decide +kernel
theorem dX2_holds_15 : decode cX2_holds 15 = .ok (.ireturn, 1) := by decide +kernel
theorem dX2_isGoods_0 : decode cX2_isGoods 0 = .ok (.aload_n 0, 1) := by decide +kernel
theorem dX2_isGoods_1 : decode cX2_isGoods 1 = .ok (.iload_n 1, 1) := by decide +kernel
theorem dX2_isGoods_2 : decode cX2_isGoods 2 = .ok (.iconst 0, 1) := by decide +kernel
theorem dX2_isGoods_3 : decode cX2_isGoods 3 = .ok (.invokevirtual 41, 3) := by decide +kernel
theorem dX2_isGoods_6 : decode cX2_isGoods 6 = .ok (.ifCond .ne 7, 3) := by decide +kernel
theorem dX2_isGoods_9 : decode cX2_isGoods 9 = .ok (.iconst 1, 1) := by decide +kernel
theorem dX2_isGoods_10 : decode cX2_isGoods 10 = .ok (.goto 4, 3) := by decide +kernel
theorem dX2_isGoods_13 : decode cX2_isGoods 13 = .ok (.iconst 0, 1) := by decide +kernel
theorem dX2_isGoods_14 : decode cX2_isGoods 14 = .ok (.ireturn, 1) := by decide +kernel
theorem dX2_shipNamed_0 : decode cX2_shipNamed 0 = .ok (.iconst 0, 1) := by decide +kernel
theorem dX2_shipNamed_1 : decode cX2_shipNamed 1 = .ok (.istore_n 3, 1) := by decide +kernel
theorem dX2_shipNamed_2 : decode cX2_shipNamed 2 = .ok (.iload_n 3, 1) := by decide +kernel
theorem dX2_shipNamed_3 : decode cX2_shipNamed 3 = .ok (.aload_n 0, 1) := by decide +kernel
theorem dX2_shipNamed_4 : decode cX2_shipNamed 4 = .ok (.getfield 9, 3) := by decide +kernel
theorem dX2_shipNamed_7 : decode cX2_shipNamed 7 = .ok (.if_icmp .ge 22, 3) := by decide +kernel
theorem dX2_shipNamed_10 : decode cX2_shipNamed 10 = .ok (.aload_n 0, 1) := by decide +kernel
theorem dX2_shipNamed_11 : decode cX2_shipNamed 11 = .ok (.getfield 18, 3) := by decide +kernel
theorem dX2_shipNamed_14 : decode cX2_shipNamed 14 = .ok (.iload_n 3, 1) := by decide +kernel
theorem dX2_shipNamed_15 : decode cX2_shipNamed 15 = .ok (.laload, 1) := by decide +kernel
theorem dX2_shipNamed_16 : decode cX2_shipNamed 16 = .ok (.lload_n 1, 1) := by decide +kernel
theorem dX2_shipNamed_17 : decode cX2_shipNamed 17 = .ok (.lcmp, 1) := by decide +kernel
theorem dX2_shipNamed_18 : decode cX2_shipNamed 18 = .ok (.ifCond .ne 5, 3) := by decide +kernel
theorem dX2_shipNamed_21 : decode cX2_shipNamed 21 = .ok (.iload_n 3, 1) := by decide +kernel
theorem dX2_shipNamed_22 : decode cX2_shipNamed 22 = .ok (.ireturn, 1) := by decide +kernel
theorem dX2_shipNamed_23 : decode cX2_shipNamed 23 = .ok (.iinc 3 1, 3) := by decide +kernel
theorem dX2_shipNamed_26 : decode cX2_shipNamed 26 = .ok (.goto (-24), 3) := by decide +kernel
theorem dX2_shipNamed_29 : decode cX2_shipNamed 29 = .ok (.iconst (-1), 1) := by decide +kernel
theorem dX2_shipNamed_30 : decode cX2_shipNamed 30 = .ok (.ireturn, 1) := by decide +kernel
theorem dX2_addShip_0 : decode cX2_addShip 0 = .ok (.aload_n 0, 1) := by decide +kernel
theorem dX2_addShip_1 : decode cX2_addShip 1 = .ok (.getfield 18, 3) := by decide +kernel
theorem dX2_addShip_4 : decode cX2_addShip 4 = .ok (.aload_n 0, 1) := by decide +kernel
theorem dX2_addShip_5 : decode cX2_addShip 5 = .ok (.getfield 9, 3) := by decide +kernel
theorem dX2_addShip_8 : decode cX2_addShip 8 = .ok (.lload_n 1, 1) := by decide +kernel
theorem dX2_addShip_9 : decode cX2_addShip 9 = .ok (.lastore, 1) := by decide +kernel
theorem dX2_addShip_10 : decode cX2_addShip 10 = .ok (.iconst 0, 1) := by decide +kernel
theorem dX2_addShip_11 : decode cX2_addShip 11 = .ok (.istore_n 3, 1) := by decide +kernel
theorem dX2_addShip_12 : decode cX2_addShip 12 = .ok (.iload_n 3, 1) := by decide +kernel
theorem dX2_addShip_13 : decode cX2_addShip 13 = .ok (.bipush 6, 2) := by decide +kernel
theorem dX2_addShip_15 : decode cX2_addShip 15 = .ok (.if_icmp .ge 19, 3) := by decide +kernel
theorem dX2_addShip_18 : decode cX2_addShip 18 = .ok (.aload_n 0, 1) := by decide +kernel
theorem dX2_addShip_19 : decode cX2_addShip 19 = .ok (.aload_n 0, 1) := by decide +kernel
theorem dX2_addShip_20 : decode cX2_addShip 20 = .ok (.getfield 9, 3) := by decide +kernel
theorem dX2_addShip_23 : decode cX2_addShip 23 = .ok (.iload_n 3, 1) := by decide +kernel
theorem dX2_addShip_24 : decode cX2_addShip 24 = .ok (.iconst 0, 1) := by decide +kernel
theorem dX2_addShip_25 : decode cX2_addShip 25 = .ok (.invokevirtual 45, 3) := by decide +kernel
theorem dX2_addShip_28 : decode cX2_addShip 28 = .ok (.iinc 3 1, 3) := by decide +kernel
theorem dX2_addShip_31 : decode cX2_addShip 31 = .ok (.goto (-19), 3) := by decide +kernel
theorem dX2_addShip_34 : decode cX2_addShip 34 = .ok (.aload_n 0, 1) := by decide +kernel
theorem dX2_addShip_35 : decode cX2_addShip 35 = .ok (.dup, 1) := by decide +kernel
theorem dX2_addShip_36 : decode cX2_addShip 36 = .ok (.getfield 9, 3) := by decide +kernel
theorem dX2_addShip_39 : decode cX2_addShip 39 = .ok (.iconst 1, 1) := by decide +kernel
theorem dX2_addShip_40 : decode cX2_addShip 40 = .ok (.iadd, 1) := by decide +kernel
theorem dX2_addShip_41 : decode cX2_addShip 41 = .ok (.putfield 9, 3) := by decide +kernel
theorem dX2_addShip_44 : decode cX2_addShip 44 = .ok (.return_, 1) := by decide +kernel
theorem dX2_addClaim_0 : decode cX2_addClaim 0 = .ok (.aload_n 0, 1) := by decide +kernel
theorem dX2_addClaim_1 : decode cX2_addClaim 1 = .ok (.getfield 15, 3) := by decide +kernel
theorem dX2_addClaim_4 : decode cX2_addClaim 4 = .ok (.iconst 4, 1) := by decide +kernel
theorem dX2_addClaim_5 : decode cX2_addClaim 5 = .ok (.imul, 1) := by decide +kernel
theorem dX2_addClaim_6 : decode cX2_addClaim 6 = .ok (.istore 5, 2) := by decide +kernel
theorem dX2_addClaim_8 : decode cX2_addClaim 8 = .ok (.aload_n 0, 1) := by decide +kernel
theorem dX2_addClaim_9 : decode cX2_addClaim 9 = .ok (.getfield 26, 3) := by decide +kernel
theorem dX2_addClaim_12 : decode cX2_addClaim 12 = .ok (.iload 5, 2) := by decide +kernel
theorem dX2_addClaim_14 : decode cX2_addClaim 14 = .ok (.iconst 0, 1) := by decide +kernel
theorem dX2_addClaim_15 : decode cX2_addClaim 15 = .ok (.iadd, 1) := by decide +kernel
theorem dX2_addClaim_16 : decode cX2_addClaim 16 = .ok (.iload_n 1, 1) := by decide +kernel
theorem dX2_addClaim_17 : decode cX2_addClaim 17 = .ok (.iastore, 1) := by decide +kernel
theorem dX2_addClaim_18 : decode cX2_addClaim 18 = .ok (.aload_n 0, 1) := by decide +kernel
theorem dX2_addClaim_19 : decode cX2_addClaim 19 = .ok (.getfield 26, 3) := by decide +kernel
theorem dX2_addClaim_22 : decode cX2_addClaim 22 = .ok (.iload 5, 2) := by decide +kernel
theorem dX2_addClaim_24 : decode cX2_addClaim 24 = .ok (.iconst 1, 1) := by decide +kernel
theorem dX2_addClaim_25 : decode cX2_addClaim 25 = .ok (.iadd, 1) := by decide +kernel
theorem dX2_addClaim_26 : decode cX2_addClaim 26 = .ok (.iload_n 1, 1) := by decide +kernel
theorem dX2_addClaim_27 : decode cX2_addClaim 27 = .ok (.ifCond .ne 7, 3) := by decide +kernel
theorem dX2_addClaim_30 : decode cX2_addClaim 30 = .ok (.iload_n 2, 1) := by decide +kernel
theorem dX2_addClaim_31 : decode cX2_addClaim 31 = .ok (.goto 5, 3) := by decide +kernel
theorem dX2_addClaim_34 : decode cX2_addClaim 34 = .ok (.bipush (-2), 2) := by decide +kernel
theorem dX2_addClaim_36 : decode cX2_addClaim 36 = .ok (.iastore, 1) := by decide +kernel
theorem dX2_addClaim_37 : decode cX2_addClaim 37 = .ok (.aload_n 0, 1) := by decide +kernel
theorem dX2_addClaim_38 : decode cX2_addClaim 38 = .ok (.getfield 26, 3) := by decide +kernel
theorem dX2_addClaim_41 : decode cX2_addClaim 41 = .ok (.iload 5, 2) := by decide +kernel
theorem dX2_addClaim_43 : decode cX2_addClaim 43 = .ok (.iconst 2, 1) := by decide +kernel
theorem dX2_addClaim_44 : decode cX2_addClaim 44 = .ok (.iadd, 1) := by decide +kernel
theorem dX2_addClaim_45 : decode cX2_addClaim 45 = .ok (.iload_n 3, 1) := by decide +kernel
theorem dX2_addClaim_46 : decode cX2_addClaim 46 = .ok (.iastore, 1) := by decide +kernel
theorem dX2_addClaim_47 : decode cX2_addClaim 47 = .ok (.aload_n 0, 1) := by decide +kernel
theorem dX2_addClaim_48 : decode cX2_addClaim 48 = .ok (.getfield 26, 3) := by decide +kernel
theorem dX2_addClaim_51 : decode cX2_addClaim 51 = .ok (.iload 5, 2) := by decide +kernel
theorem dX2_addClaim_53 : decode cX2_addClaim 53 = .ok (.iconst 3, 1) := by decide +kernel
theorem dX2_addClaim_54 : decode cX2_addClaim 54 = .ok (.iadd, 1) := by decide +kernel
theorem dX2_addClaim_55 : decode cX2_addClaim 55 = .ok (.iload 4, 2) := by decide +kernel
theorem dX2_addClaim_57 : decode cX2_addClaim 57 = .ok (.iastore, 1) := by decide +kernel
theorem dX2_addClaim_58 : decode cX2_addClaim 58 = .ok (.aload_n 0, 1) := by decide +kernel
theorem dX2_addClaim_59 : decode cX2_addClaim 59 = .ok (.dup, 1) := by decide +kernel
theorem dX2_addClaim_60 : decode cX2_addClaim 60 = .ok (.getfield 15, 3) := by decide +kernel
theorem dX2_addClaim_63 : decode cX2_addClaim 63 = .ok (.iconst 1, 1) := by decide +kernel
theorem dX2_addClaim_64 : decode cX2_addClaim 64 = .ok (.iadd, 1) := by decide +kernel
theorem dX2_addClaim_65 : decode cX2_addClaim 65 = .ok (.putfield 15, 3) := by decide +kernel
theorem dX2_addClaim_68 : decode cX2_addClaim 68 = .ok (.return_, 1) := by decide +kernel
theorem dX2_dropClaim_0 : decode cX2_dropClaim 0 = .ok (.aload_n 0, 1) := by decide +kernel
theorem dX2_dropClaim_1 : decode cX2_dropClaim 1 = .ok (.dup, 1) := by decide +kernel
theorem dX2_dropClaim_2 : decode cX2_dropClaim 2 = .ok (.getfield 15, 3) := by decide +kernel
theorem dX2_dropClaim_5 : decode cX2_dropClaim 5 = .ok (.iconst 1, 1) := by decide +kernel
theorem dX2_dropClaim_6 : decode cX2_dropClaim 6 = .ok (.isub, 1) := by decide +kernel
theorem dX2_dropClaim_7 : decode cX2_dropClaim 7 = .ok (.putfield 15, 3) := by decide +kernel
theorem dX2_dropClaim_10 : decode cX2_dropClaim 10 = .ok (.iload_n 1, 1) := by decide +kernel
theorem dX2_dropClaim_11 : decode cX2_dropClaim 11 = .ok (.iconst 4, 1) := by decide +kernel
theorem dX2_dropClaim_12 : decode cX2_dropClaim 12 = .ok (.imul, 1) := by decide +kernel
theorem dX2_dropClaim_13 : decode cX2_dropClaim 13 = .ok (.istore_n 2, 1) := by decide +kernel
theorem dX2_dropClaim_14 : decode cX2_dropClaim 14 = .ok (.iload_n 2, 1) := by decide +kernel
theorem dX2_dropClaim_15 : decode cX2_dropClaim 15 = .ok (.aload_n 0, 1) := by decide +kernel
theorem dX2_dropClaim_16 : decode cX2_dropClaim 16 = .ok (.getfield 15, 3) := by decide +kernel
theorem dX2_dropClaim_19 : decode cX2_dropClaim 19 = .ok (.iconst 4, 1) := by decide +kernel
theorem dX2_dropClaim_20 : decode cX2_dropClaim 20 = .ok (.imul, 1) := by decide +kernel
theorem dX2_dropClaim_21 : decode cX2_dropClaim 21 = .ok (.if_icmp .ge 23, 3) := by decide +kernel
theorem dX2_dropClaim_24 : decode cX2_dropClaim 24 = .ok (.aload_n 0, 1) := by decide +kernel
theorem dX2_dropClaim_25 : decode cX2_dropClaim 25 = .ok (.getfield 26, 3) := by decide +kernel
theorem dX2_dropClaim_28 : decode cX2_dropClaim 28 = .ok (.iload_n 2, 1) := by decide +kernel
theorem dX2_dropClaim_29 : decode cX2_dropClaim 29 = .ok (.aload_n 0, 1) := by decide +kernel
theorem dX2_dropClaim_30 : decode cX2_dropClaim 30 = .ok (.getfield 26, 3) := by decide +kernel
theorem dX2_dropClaim_33 : decode cX2_dropClaim 33 = .ok (.iload_n 2, 1) := by decide +kernel
theorem dX2_dropClaim_34 : decode cX2_dropClaim 34 = .ok (.iconst 4, 1) := by decide +kernel
theorem dX2_dropClaim_35 : decode cX2_dropClaim 35 = .ok (.iadd, 1) := by decide +kernel
theorem dX2_dropClaim_36 : decode cX2_dropClaim 36 = .ok (.iaload, 1) := by decide +kernel
theorem dX2_dropClaim_37 : decode cX2_dropClaim 37 = .ok (.iastore, 1) := by decide +kernel
theorem dX2_dropClaim_38 : decode cX2_dropClaim 38 = .ok (.iinc 2 1, 3) := by decide +kernel
theorem dX2_dropClaim_41 : decode cX2_dropClaim 41 = .ok (.goto (-27), 3) := by decide +kernel
theorem dX2_dropClaim_44 : decode cX2_dropClaim 44 = .ok (.return_, 1) := by decide +kernel
theorem dX2_faultsTogether_0 : decode cX2_faultsTogether 0 = .ok (.iconst 0, 1) := by decide +kernel
theorem dX2_faultsTogether_1 : decode cX2_faultsTogether 1 = .ok (.istore_n 1, 1) := by decide +kernel
theorem dX2_faultsTogether_2 : decode cX2_faultsTogether 2 = .ok (.iconst 0, 1) := by decide +kernel
theorem dX2_faultsTogether_3 : decode cX2_faultsTogether 3 = .ok (.istore_n 2, 1) := by decide +kernel
theorem dX2_faultsTogether_4 : decode cX2_faultsTogether 4 = .ok (.iload_n 2, 1) := by decide +kernel
theorem dX2_faultsTogether_5 : decode cX2_faultsTogether 5 = .ok (.aload_n 0, 1) := by decide +kernel
theorem dX2_faultsTogether_6 : decode cX2_faultsTogether 6 = .ok (.getfield 9, 3) := by decide +kernel
theorem dX2_faultsTogether_9 : decode cX2_faultsTogether 9 = .ok (.if_icmp .ge 18, 3) := by decide +kernel
theorem dX2_faultsTogether_12 : decode cX2_faultsTogether 12 = .ok (.iload_n 1, 1) := by decide +kernel
theorem dX2_faultsTogether_13 : decode cX2_faultsTogether 13 = .ok (.aload_n 0, 1) := by decide +kernel
theorem dX2_faultsTogether_14 : decode cX2_faultsTogether 14 = .ok (.iload_n 2, 1) := by decide +kernel
theorem dX2_faultsTogether_15 : decode cX2_faultsTogether 15 = .ok (.iconst 1, 1) := by decide +kernel
theorem dX2_faultsTogether_16 : decode cX2_faultsTogether 16 = .ok (.invokevirtual 49, 3) := by decide +kernel
theorem dX2_faultsTogether_19 : decode cX2_faultsTogether 19 = .ok (.iadd, 1) := by decide +kernel
theorem dX2_faultsTogether_20 : decode cX2_faultsTogether 20 = .ok (.istore_n 1, 1) := by decide +kernel
theorem dX2_faultsTogether_21 : decode cX2_faultsTogether 21 = .ok (.iinc 2 1, 3) := by decide +kernel
theorem dX2_faultsTogether_24 : decode cX2_faultsTogether 24 = .ok (.goto (-20), 3) := by decide +kernel
theorem dX2_faultsTogether_27 : decode cX2_faultsTogether 27 = .ok (.iload_n 1, 1) := by decide +kernel
theorem dX2_faultsTogether_28 : decode cX2_faultsTogether 28 = .ok (.ireturn, 1) := by decide +kernel
theorem dX2_weightOf_0 : decode cX2_weightOf 0 = .ok (.aload_n 0, 1) := by decide +kernel
theorem dX2_weightOf_1 : decode cX2_weightOf 1 = .ok (.iload_n 1, 1) := by decide +kernel
theorem dX2_weightOf_2 : decode cX2_weightOf 2 = .ok (.iconst 1, 1) := by decide +kernel
theorem dX2_weightOf_3 : decode cX2_weightOf 3 = .ok (.invokevirtual 49, 3) := by decide +kernel
theorem dX2_weightOf_6 : decode cX2_weightOf 6 = .ok (.istore_n 2, 1) := by decide +kernel
theorem dX2_weightOf_7 : decode cX2_weightOf 7 = .ok (.aload_n 0, 1) := by decide +kernel
theorem dX2_weightOf_8 : decode cX2_weightOf 8 = .ok (.iconst 2, 1) := by decide +kernel
theorem dX2_weightOf_9 : decode cX2_weightOf 9 = .ok (.invokevirtual 52, 3) := by decide +kernel
theorem dX2_weightOf_12 : decode cX2_weightOf 12 = .ok (.ifCond .eq 11, 3) := by decide +kernel
theorem dX2_weightOf_15 : decode cX2_weightOf 15 = .ok (.iload_n 2, 1) := by decide +kernel
theorem dX2_weightOf_16 : decode cX2_weightOf 16 = .ok (.iconst 1, 1) := by decide +kernel
theorem dX2_weightOf_17 : decode cX2_weightOf 17 = .ok (.invokestatic 56, 3) := by decide +kernel
theorem dX2_weightOf_20 : decode cX2_weightOf 20 = .ok (.goto 4, 3) := by decide +kernel
theorem dX2_weightOf_23 : decode cX2_weightOf 23 = .ok (.iload_n 2, 1) := by decide +kernel
theorem dX2_weightOf_24 : decode cX2_weightOf 24 = .ok (.ireturn, 1) := by decide +kernel
theorem dX2_roundOf_0 : decode cX2_roundOf 0 = .ok (.aload_n 0, 1) := by decide +kernel
theorem dX2_roundOf_1 : decode cX2_roundOf 1 = .ok (.iload_n 1, 1) := by decide +kernel
theorem dX2_roundOf_2 : decode cX2_roundOf 2 = .ok (.iconst 3, 1) := by decide +kernel
theorem dX2_roundOf_3 : decode cX2_roundOf 3 = .ok (.invokevirtual 41, 3) := by decide +kernel
theorem dX2_roundOf_6 : decode cX2_roundOf 6 = .ok (.istore_n 2, 1) := by decide +kernel
theorem dX2_roundOf_7 : decode cX2_roundOf 7 = .ok (.iload_n 2, 1) := by decide +kernel
theorem dX2_roundOf_8 : decode cX2_roundOf 8 = .ok (.aload_n 0, 1) := by decide +kernel
theorem dX2_roundOf_9 : decode cX2_roundOf 9 = .ok (.getfield 29, 3) := by decide +kernel
theorem dX2_roundOf_12 : decode cX2_roundOf 12 = .ok (.bipush 9, 2) := by decide +kernel
theorem dX2_roundOf_14 : decode cX2_roundOf 14 = .ok (.iaload, 1) := by decide +kernel
theorem dX2_roundOf_15 : decode cX2_roundOf 15 = .ok (.if_icmp .le 6, 3) := by decide +kernel
theorem dX2_roundOf_18 : decode cX2_roundOf 18 = .ok (.bipush (-2), 2) := by decide +kernel
theorem dX2_roundOf_20 : decode cX2_roundOf 20 = .ok (.ireturn, 1) := by decide +kernel
theorem dX2_roundOf_21 : decode cX2_roundOf 21 = .ok (.iload_n 2, 1) := by decide +kernel
theorem dX2_roundOf_22 : decode cX2_roundOf 22 = .ok (.aload_n 0, 1) := by decide +kernel
theorem dX2_roundOf_23 : decode cX2_roundOf 23 = .ok (.getfield 29, 3) := by decide +kernel
theorem dX2_roundOf_26 : decode cX2_roundOf 26 = .ok (.bipush 8, 2) := by decide +kernel
theorem dX2_roundOf_28 : decode cX2_roundOf 28 = .ok (.iaload, 1) := by decide +kernel
theorem dX2_roundOf_29 : decode cX2_roundOf 29 = .ok (.if_icmp .le 7, 3) := by decide +kernel
theorem dX2_roundOf_32 : decode cX2_roundOf 32 = .ok (.iconst 1, 1) := by decide +kernel
theorem dX2_roundOf_33 : decode cX2_roundOf 33 = .ok (.goto 4, 3) := by decide +kernel
theorem dX2_roundOf_36 : decode cX2_roundOf 36 = .ok (.iconst 0, 1) := by decide +kernel
theorem dX2_roundOf_37 : decode cX2_roundOf 37 = .ok (.ireturn, 1) := by decide +kernel
theorem dX2_fundTons_0 : decode cX2_fundTons 0 = .ok (.aload_n 0, 1) := by decide +kernel
theorem dX2_fundTons_1 : decode cX2_fundTons 1 = .ok (.iload_n 1, 1) := by decide +kernel
theorem dX2_fundTons_2 : decode cX2_fundTons 2 = .ok (.iconst 0, 1) := by decide +kernel
theorem dX2_fundTons_3 : decode cX2_fundTons 3 = .ok (.invokevirtual 49, 3) := by decide +kernel
theorem dX2_fundTons_6 : decode cX2_fundTons 6 = .ok (.aload_n 0, 1) := by decide +kernel
theorem dX2_fundTons_7 : decode cX2_fundTons 7 = .ok (.getfield 29, 3) := by decide +kernel
theorem dX2_fundTons_10 : decode cX2_fundTons 10 = .ok (.bipush 7, 2) := by decide +kernel
theorem dX2_fundTons_12 : decode cX2_fundTons 12 = .ok (.iaload, 1) := by decide +kernel
theorem dX2_fundTons_13 : decode cX2_fundTons 13 = .ok (.invokestatic 61, 3) := by decide +kernel
theorem dX2_fundTons_16 : decode cX2_fundTons 16 = .ok (.i2l, 1) := by decide +kernel
theorem dX2_fundTons_17 : decode cX2_fundTons 17 = .ok (.lreturn, 1) := by decide +kernel
theorem dX2_fundOf_0 : decode cX2_fundOf 0 = .ok (.aload_n 0, 1) := by decide +kernel
theorem dX2_fundOf_1 : decode cX2_fundOf 1 = .ok (.iload_n 1, 1) := by decide +kernel
theorem dX2_fundOf_2 : decode cX2_fundOf 2 = .ok (.invokevirtual 64, 3) := by decide +kernel
theorem dX2_fundOf_5 : decode cX2_fundOf 5 = .ok (.aload_n 0, 1) := by decide +kernel
theorem dX2_fundOf_6 : decode cX2_fundOf 6 = .ok (.getfield 29, 3) := by decide +kernel
theorem dX2_fundOf_9 : decode cX2_fundOf 9 = .ok (.iload_n 2, 1) := by decide +kernel
theorem dX2_fundOf_10 : decode cX2_fundOf 10 = .ok (.iaload, 1) := by decide +kernel
theorem dX2_fundOf_11 : decode cX2_fundOf 11 = .ok (.i2l, 1) := by decide +kernel
theorem dX2_fundOf_12 : decode cX2_fundOf 12 = .ok (.lmul, 1) := by decide +kernel
theorem dX2_fundOf_13 : decode cX2_fundOf 13 = .ok (.ldc2_w 68, 3) := by decide +kernel
theorem dX2_fundOf_16 : decode cX2_fundOf 16 = .ok (.invokestatic 70, 3) := by decide +kernel
theorem dX2_fundOf_19 : decode cX2_fundOf 19 = .ok (.lreturn, 1) := by decide +kernel
theorem dX2_drawFaults_0 : decode cX2_drawFaults 0 = .ok (.iconst 0, 1) := by decide +kernel
theorem dX2_drawFaults_1 : decode cX2_drawFaults 1 = .ok (.istore_n 3, 1) := by decide +kernel
theorem dX2_drawFaults_2 : decode cX2_drawFaults 2 = .ok (.iload_n 3, 1) := by decide +kernel
theorem dX2_drawFaults_3 : decode cX2_drawFaults 3 = .ok (.aload_n 0, 1) := by decide +kernel
theorem dX2_drawFaults_4 : decode cX2_drawFaults 4 = .ok (.getfield 9, 3) := by decide +kernel
theorem dX2_drawFaults_7 : decode cX2_drawFaults 7 = .ok (.if_icmp .ge 16, 3) := by decide +kernel
theorem dX2_drawFaults_10 : decode cX2_drawFaults 10 = .ok (.aload_n 0, 1) := by decide +kernel
theorem dX2_drawFaults_11 : decode cX2_drawFaults 11 = .ok (.iload_n 3, 1) := by decide +kernel
theorem dX2_drawFaults_12 : decode cX2_drawFaults 12 = .ok (.iconst 1, 1) := by decide +kernel
theorem dX2_drawFaults_13 : decode cX2_drawFaults 13 = .ok (.iconst 0, 1) := by decide +kernel
theorem dX2_drawFaults_14 : decode cX2_drawFaults 14 = .ok (.invokevirtual 45, 3) := by decide +kernel
theorem dX2_drawFaults_17 : decode cX2_drawFaults 17 = .ok (.iinc 3 1, 3) := by decide +kernel
theorem dX2_drawFaults_20 : decode cX2_drawFaults 20 = .ok (.goto (-18), 3) := by decide +kernel
theorem dX2_drawFaults_23 : decode cX2_drawFaults 23 = .ok (.lload_n 1, 1) := by decide +kernel
theorem dX2_drawFaults_24 : decode cX2_drawFaults 24 = .ok (.lstore_n 3, 1) := by decide +kernel
theorem dX2_drawFaults_25 : decode cX2_drawFaults 25 = .ok (.iconst 0, 1) := by decide +kernel
theorem dX2_drawFaults_26 : decode cX2_drawFaults 26 = .ok (.istore 5, 2) := by decide +kernel
theorem dX2_drawFaults_28 : decode cX2_drawFaults 28 = .ok (.iload 5, 2) := by decide +kernel
theorem dX2_drawFaults_30 : decode cX2_drawFaults 30 = .ok (.bipush 10, 2) := by decide +kernel
theorem dX2_drawFaults_32 : decode cX2_drawFaults 32 = .ok (.if_icmp .ge 52, 3) := by decide +kernel
theorem dX2_drawFaults_35 : decode cX2_drawFaults 35 = .ok (.aload_n 0, 1) := by decide +kernel
theorem dX2_drawFaults_36 : decode cX2_drawFaults 36 = .ok (.getfield 9, 3) := by decide +kernel
theorem dX2_drawFaults_39 : decode cX2_drawFaults 39 = .ok (.ifCond .le 45, 3) := by decide +kernel
theorem dX2_drawFaults_42 : decode cX2_drawFaults 42 = .ok (.ldc2_w 73, 3) := by decide +kernel
theorem dX2_drawFaults_45 : decode cX2_drawFaults 45 = .ok (.lload_n 3, 1) := by decide +kernel
theorem dX2_drawFaults_46 : decode cX2_drawFaults 46 = .ok (.lmul, 1) := by decide +kernel
theorem dX2_drawFaults_47 : decode cX2_drawFaults 47 = .ok (.ldc2_w 75, 3) := by decide +kernel
theorem dX2_drawFaults_50 : decode cX2_drawFaults 50 = .ok (.lrem, 1) := by decide +kernel
theorem dX2_drawFaults_51 : decode cX2_drawFaults 51 = .ok (.lstore_n 3, 1) := by decide +kernel
theorem dX2_drawFaults_52 : decode cX2_drawFaults 52 = .ok (.lload_n 3, 1) := by decide +kernel
theorem dX2_drawFaults_53 : decode cX2_drawFaults 53 = .ok (.aload_n 0, 1) := by decide +kernel
theorem dX2_drawFaults_54 : decode cX2_drawFaults 54 = .ok (.getfield 9, 3) := by decide +kernel
theorem dX2_drawFaults_57 : decode cX2_drawFaults 57 = .ok (.i2l, 1) := by decide +kernel
theorem dX2_drawFaults_58 : decode cX2_drawFaults 58 = .ok (.lrem, 1) := by decide +kernel
theorem dX2_drawFaults_59 : decode cX2_drawFaults 59 = .ok (.l2i, 1) := by decide +kernel
theorem dX2_drawFaults_60 : decode cX2_drawFaults 60 = .ok (.istore 6, 2) := by decide +kernel
theorem dX2_drawFaults_62 : decode cX2_drawFaults 62 = .ok (.aload_n 0, 1) := by decide +kernel
theorem dX2_drawFaults_63 : decode cX2_drawFaults 63 = .ok (.iload 6, 2) := by decide +kernel
theorem dX2_drawFaults_65 : decode cX2_drawFaults 65 = .ok (.iconst 1, 1) := by decide +kernel
theorem dX2_drawFaults_66 : decode cX2_drawFaults 66 = .ok (.aload_n 0, 1) := by decide +kernel
theorem dX2_drawFaults_67 : decode cX2_drawFaults 67 = .ok (.iload 6, 2) := by decide +kernel
theorem dX2_drawFaults_69 : decode cX2_drawFaults 69 = .ok (.iconst 1, 1) := by decide +kernel
theorem dX2_drawFaults_70 : decode cX2_drawFaults 70 = .ok (.invokevirtual 49, 3) := by decide +kernel
theorem dX2_drawFaults_73 : decode cX2_drawFaults 73 = .ok (.iconst 1, 1) := by decide +kernel
theorem dX2_drawFaults_74 : decode cX2_drawFaults 74 = .ok (.iadd, 1) := by decide +kernel
theorem dX2_drawFaults_75 : decode cX2_drawFaults 75 = .ok (.invokevirtual 45, 3) := by decide +kernel
theorem dX2_drawFaults_78 : decode cX2_drawFaults 78 = .ok (.iinc 5 1, 3) := by decide +kernel
theorem dX2_drawFaults_81 : decode cX2_drawFaults 81 = .ok (.goto (-53), 3) := by decide +kernel
theorem dX2_drawFaults_84 : decode cX2_drawFaults 84 = .ok (.lload_n 3, 1) := by decide +kernel
theorem dX2_drawFaults_85 : decode cX2_drawFaults 85 = .ok (.lreturn, 1) := by decide +kernel
theorem dJ9_max_7cf53_0 : decode cJ9_max_7cf53 0 = .ok (.iload_n 0, 1) := by decide +kernel
theorem dJ9_max_7cf53_1 : decode cJ9_max_7cf53 1 = .ok (.iload_n 1, 1) := by decide +kernel
theorem dJ9_max_7cf53_2 : decode cJ9_max_7cf53 2 = .ok (.if_icmp .lt 7, 3) := by decide +kernel
theorem dJ9_max_7cf53_5 : decode cJ9_max_7cf53 5 = .ok (.iload_n 0, 1) := by decide +kernel
theorem dJ9_max_7cf53_6 : decode cJ9_max_7cf53 6 = .ok (.goto 4, 3) := by decide +kernel
theorem dJ9_max_7cf53_9 : decode cJ9_max_7cf53 9 = .ok (.iload_n 1, 1) := by decide +kernel
theorem dJ9_max_7cf53_10 : decode cJ9_max_7cf53 10 = .ok (.ireturn, 1) := by decide +kernel
theorem dJ9_max_f86c9_0 : decode cJ9_max_f86c9 0 = .ok (.lload_n 0, 1) := by decide +kernel
theorem dJ9_max_f86c9_1 : decode cJ9_max_f86c9 1 = .ok (.lload_n 2, 1) := by decide +kernel
theorem dJ9_max_f86c9_2 : decode cJ9_max_f86c9 2 = .ok (.lcmp, 1) := by decide +kernel
theorem dJ9_max_f86c9_3 : decode cJ9_max_f86c9 3 = .ok (.ifCond .lt 7, 3) := by decide +kernel
theorem dJ9_max_f86c9_6 : decode cJ9_max_f86c9 6 = .ok (.lload_n 0, 1) := by decide +kernel
theorem dJ9_max_f86c9_7 : decode cJ9_max_f86c9 7 = .ok (.goto 4, 3) := by decide +kernel
theorem dJ9_max_f86c9_10 : decode cJ9_max_f86c9 10 = .ok (.lload_n 2, 1) := by decide +kernel
theorem dJ9_max_f86c9_11 : decode cJ9_max_f86c9 11 = .ok (.lreturn, 1) := by decide +kernel
theorem dJ9_min_7cf53_0 : decode cJ9_min_7cf53 0 = .ok (.iload_n 0, 1) := by decide +kernel
theorem dJ9_min_7cf53_1 : decode cJ9_min_7cf53 1 = .ok (.iload_n 1, 1) := by decide +kernel
theorem dJ9_min_7cf53_2 : decode cJ9_min_7cf53 2 = .ok (.if_icmp .gt 7, 3) := by decide +kernel
theorem dJ9_min_7cf53_5 : decode cJ9_min_7cf53 5 = .ok (.iload_n 0, 1) := by decide +kernel
theorem dJ9_min_7cf53_6 : decode cJ9_min_7cf53 6 = .ok (.goto 4, 3) := by decide +kernel
theorem dJ9_min_7cf53_9 : decode cJ9_min_7cf53 9 = .ok (.iload_n 1, 1) := by decide +kernel
theorem dJ9_min_7cf53_10 : decode cJ9_min_7cf53 10 = .ok (.ireturn, 1) := by decide +kernel
theorem dJ9_min_f86c9_0 : decode cJ9_min_f86c9 0 = .ok (.lload_n 0, 1) := by decide +kernel
theorem dJ9_min_f86c9_1 : decode cJ9_min_f86c9 1 = .ok (.lload_n 2, 1) := by decide +kernel
theorem dJ9_min_f86c9_2 : decode cJ9_min_f86c9 2 = .ok (.lcmp, 1) := by decide +kernel
theorem dJ9_min_f86c9_3 : decode cJ9_min_f86c9 3 = .ok (.ifCond .gt 7, 3) := by decide +kernel
theorem dJ9_min_f86c9_6 : decode cJ9_min_f86c9 6 = .ok (.lload_n 0, 1) := by decide +kernel
theorem dJ9_min_f86c9_7 : decode cJ9_min_f86c9 7 = .ok (.goto 4, 3) := by decide +kernel
theorem dJ9_min_f86c9_10 : decode cJ9_min_f86c9 10 = .ok (.lload_n 2, 1) := by decide +kernel
theorem dJ9_min_f86c9_11 : decode cJ9_min_f86c9 11 = .ok (.lreturn, 1) := by decide +kernel
theorem dJ7_fill_d0a16_0 : decode cJ7_fill_d0a16 0 = .ok (.iconst 0, 1) := by decide +kernel
theorem dJ7_fill_d0a16_1 : decode cJ7_fill_d0a16 1 = .ok (.istore_n 3, 1) := by decide +kernel
theorem dJ7_fill_d0a16_2 : decode cJ7_fill_d0a16 2 = .ok (.aload_n 0, 1) := by decide +kernel
theorem dJ7_fill_d0a16_3 : decode cJ7_fill_d0a16 3 = .ok (.arraylength, 1) := by decide +kernel
theorem dJ7_fill_d0a16_4 : decode cJ7_fill_d0a16 4 = .ok (.istore 4, 2) := by decide +kernel
theorem dJ7_fill_d0a16_6 : decode cJ7_fill_d0a16 6 = .ok (.iload_n 3, 1) := by decide +kernel
theorem dJ7_fill_d0a16_7 : decode cJ7_fill_d0a16 7 = .ok (.iload 4, 2) := by decide +kernel
theorem dJ7_fill_d0a16_9 : decode cJ7_fill_d0a16 9 = .ok (.if_icmp .ge 13, 3) := by decide +kernel
theorem dJ7_fill_d0a16_12 : decode cJ7_fill_d0a16 12 = .ok (.aload_n 0, 1) := by decide +kernel
theorem dJ7_fill_d0a16_13 : decode cJ7_fill_d0a16 13 = .ok (.iload_n 3, 1) := by decide +kernel
theorem dJ7_fill_d0a16_14 : decode cJ7_fill_d0a16 14 = .ok (.lload_n 1, 1) := by decide +kernel
theorem dJ7_fill_d0a16_15 : decode cJ7_fill_d0a16 15 = .ok (.lastore, 1) := by decide +kernel
theorem dJ7_fill_d0a16_16 : decode cJ7_fill_d0a16 16 = .ok (.iinc 3 1, 3) := by decide +kernel
theorem dJ7_fill_d0a16_19 : decode cJ7_fill_d0a16 19 = .ok (.goto (-13), 3) := by decide +kernel
theorem dJ7_fill_d0a16_22 : decode cJ7_fill_d0a16 22 = .ok (.return_, 1) := by decide +kernel
