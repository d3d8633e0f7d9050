/-! ===== 85.lawA: the law's cases ===== -/
theorem gi_X4 : Cond.initialized RX4 ∈ GW := gw_in (List.mem_of_getElem? (i := 123) (by decide +kernel)) (by decide +kernel)
theorem gi_X5 : Cond.initialized RX5 ∈ GW := gw_in (List.mem_of_getElem? (i := 127) (by decide +kernel)) (by decide +kernel)
theorem vl_19 : VW RL 19 RX4 yX4_feed cX4_feed 6 (some .int) 5 := ⟨gw_in (List.mem_of_getElem? (i := 297) (by decide +kernel)) (by decide +kernel), gw_in (List.mem_of_getElem? (i := 298) (by decide +kernel)) (by decide +kernel), gw_in (List.mem_of_getElem? (i := 299) (by decide +kernel)) (by decide +kernel), gi_X4, gw_in (List.mem_of_getElem? (i := 300) (by decide +kernel)) (by decide +kernel), by decide +kernel⟩
theorem vl_23 : VW RL 23 RX5 yX5_feed cX5_feed 8 (some .int) 5 := ⟨gw_in (List.mem_of_getElem? (i := 1043) (by decide +kernel)) (by decide +kernel), gw_in (List.mem_of_getElem? (i := 1044) (by decide +kernel)) (by decide +kernel), gw_in (List.mem_of_getElem? (i := 1045) (by decide +kernel)) (by decide +kernel), gi_X5, gw_in (List.mem_of_getElem? (i := 1046) (by decide +kernel)) (by decide +kernel), by decide +kernel⟩
theorem vl_24 : VW RL 24 RX4 yX4_text cX4_text 3 (some .int) 1 := ⟨gw_in (List.mem_of_getElem? (i := 305) (by decide +kernel)) (by decide +kernel), gw_in (List.mem_of_getElem? (i := 306) (by decide +kernel)) (by decide +kernel), gw_in (List.mem_of_getElem? (i := 307) (by decide +kernel)) (by decide +kernel), gi_X4, gw_in (List.mem_of_getElem? (i := 308) (by decide +kernel)) (by decide +kernel), by decide +kernel⟩
theorem vl_28 : VW RL 28 RX5 yX5_text cX5_text 3 (some .int) 1 := ⟨gw_in (List.mem_of_getElem? (i := 1051) (by decide +kernel)) (by decide +kernel), gw_in (List.mem_of_getElem? (i := 1052) (by decide +kernel)) (by decide +kernel), gw_in (List.mem_of_getElem? (i := 1053) (by decide +kernel)) (by decide +kernel), gi_X5, gw_in (List.mem_of_getElem? (i := 1054) (by decide +kernel)) (by decide +kernel), by decide +kernel⟩
theorem vl_29 : VW RL 29 RX4 yX4_fault cX4_fault 1 (some .int) 0 := ⟨gw_in (List.mem_of_getElem? (i := 462) (by decide +kernel)) (by decide +kernel), gw_in (List.mem_of_getElem? (i := 463) (by decide +kernel)) (by decide +kernel), gw_in (List.mem_of_getElem? (i := 464) (by decide +kernel)) (by decide +kernel), gi_X4, gw_in (List.mem_of_getElem? (i := 465) (by decide +kernel)) (by decide +kernel), by decide +kernel⟩
theorem vl_33 : VW RL 33 RX5 yX5_fault cX5_fault 1 (some .int) 0 := ⟨gw_in (List.mem_of_getElem? (i := 1189) (by decide +kernel)) (by decide +kernel), gw_in (List.mem_of_getElem? (i := 1190) (by decide +kernel)) (by decide +kernel), gw_in (List.mem_of_getElem? (i := 1191) (by decide +kernel)) (by decide +kernel), gi_X5, gw_in (List.mem_of_getElem? (i := 1192) (by decide +kernel)) (by decide +kernel), by decide +kernel⟩
theorem vl_34 : VW RL 34 RX4 yX4_where cX4_where 1 (some .int) 0 := ⟨gw_in (List.mem_of_getElem? (i := 466) (by decide +kernel)) (by decide +kernel), gw_in (List.mem_of_getElem? (i := 467) (by decide +kernel)) (by decide +kernel), gw_in (List.mem_of_getElem? (i := 468) (by decide +kernel)) (by decide +kernel), gi_X4, gw_in (List.mem_of_getElem? (i := 469) (by decide +kernel)) (by decide +kernel), by decide +kernel⟩
theorem vl_37 : VW RL 37 RX5 yX5_where cX5_where 1 (some .int) 0 := ⟨gw_in (List.mem_of_getElem? (i := 1193) (by decide +kernel)) (by decide +kernel), gw_in (List.mem_of_getElem? (i := 1194) (by decide +kernel)) (by decide +kernel), gw_in (List.mem_of_getElem? (i := 1195) (by decide +kernel)) (by decide +kernel), gi_X5, gw_in (List.mem_of_getElem? (i := 1196) (by decide +kernel)) (by decide +kernel), by decide +kernel⟩
theorem vl_38 : VW RL 38 RX4 yX4_about cX4_about 2 (some .int) 1 := ⟨gw_in (List.mem_of_getElem? (i := 470) (by decide +kernel)) (by decide +kernel), gw_in (List.mem_of_getElem? (i := 471) (by decide +kernel)) (by decide +kernel), gw_in (List.mem_of_getElem? (i := 472) (by decide +kernel)) (by decide +kernel), gi_X4, gw_in (List.mem_of_getElem? (i := 473) (by decide +kernel)) (by decide +kernel), by decide +kernel⟩
theorem vl_41 : VW RL 41 RX5 yX5_about cX5_about 2 (some .int) 1 := ⟨gw_in (List.mem_of_getElem? (i := 1201) (by decide +kernel)) (by decide +kernel), gw_in (List.mem_of_getElem? (i := 1202) (by decide +kernel)) (by decide +kernel), gw_in (List.mem_of_getElem? (i := 1203) (by decide +kernel)) (by decide +kernel), gi_X5, gw_in (List.mem_of_getElem? (i := 1204) (by decide +kernel)) (by decide +kernel), by decide +kernel⟩
theorem vl_42 : VW RL 42 RX4 yX4_ship cX4_ship 3 (some .int) 2 := ⟨gw_in (List.mem_of_getElem? (i := 478) (by decide +kernel)) (by decide +kernel), gw_in (List.mem_of_getElem? (i := 479) (by decide +kernel)) (by decide +kernel), gw_in (List.mem_of_getElem? (i := 480) (by decide +kernel)) (by decide +kernel), gi_X4, gw_in (List.mem_of_getElem? (i := 481) (by decide +kernel)) (by decide +kernel), by decide +kernel⟩
theorem vl_45 : VW RL 45 RX5 yX5_ship cX5_ship 3 (some .int) 2 := ⟨gw_in (List.mem_of_getElem? (i := 1206) (by decide +kernel)) (by decide +kernel), gw_in (List.mem_of_getElem? (i := 1207) (by decide +kernel)) (by decide +kernel), gw_in (List.mem_of_getElem? (i := 1208) (by decide +kernel)) (by decide +kernel), gi_X5, gw_in (List.mem_of_getElem? (i := 1209) (by decide +kernel)) (by decide +kernel), by decide +kernel⟩
theorem vl_46 : VW RL 46 RX4 yX4_claim cX4_claim 3 (some .int) 2 := ⟨gw_in (List.mem_of_getElem? (i := 498) (by decide +kernel)) (by decide +kernel), gw_in (List.mem_of_getElem? (i := 499) (by decide +kernel)) (by decide +kernel), gw_in (List.mem_of_getElem? (i := 500) (by decide +kernel)) (by decide +kernel), gi_X4, gw_in (List.mem_of_getElem? (i := 501) (by decide +kernel)) (by decide +kernel), by decide +kernel⟩
theorem vl_49 : VW RL 49 RX5 yX5_claim cX5_claim 3 (some .int) 2 := ⟨gw_in (List.mem_of_getElem? (i := 1221) (by decide +kernel)) (by decide +kernel), gw_in (List.mem_of_getElem? (i := 1222) (by decide +kernel)) (by decide +kernel), gw_in (List.mem_of_getElem? (i := 1223) (by decide +kernel)) (by decide +kernel), gi_X5, gw_in (List.mem_of_getElem? (i := 1224) (by decide +kernel)) (by decide +kernel), by decide +kernel⟩
theorem vl_50 : VW RL 50 RX4 yX4_part cX4_part 3 (some .int) 2 := ⟨gw_in (List.mem_of_getElem? (i := 515) (by decide +kernel)) (by decide +kernel), gw_in (List.mem_of_getElem? (i := 516) (by decide +kernel)) (by decide +kernel), gw_in (List.mem_of_getElem? (i := 517) (by decide +kernel)) (by decide +kernel), gi_X4, gw_in (List.mem_of_getElem? (i := 518) (by decide +kernel)) (by decide +kernel), by decide +kernel⟩
theorem vl_53 : VW RL 53 RX5 yX5_part cX5_part 3 (some .int) 2 := ⟨gw_in (List.mem_of_getElem? (i := 1240) (by decide +kernel)) (by decide +kernel), gw_in (List.mem_of_getElem? (i := 1241) (by decide +kernel)) (by decide +kernel), gw_in (List.mem_of_getElem? (i := 1242) (by decide +kernel)) (by decide +kernel), gi_X5, gw_in (List.mem_of_getElem? (i := 1243) (by decide +kernel)) (by decide +kernel), by decide +kernel⟩
theorem vl_54 : VW RL 54 RX4 yX4_owes cX4_owes 3 (some .int) 2 := ⟨gw_in (List.mem_of_getElem? (i := 634) (by decide +kernel)) (by decide +kernel), gw_in (List.mem_of_getElem? (i := 635) (by decide +kernel)) (by decide +kernel), gw_in (List.mem_of_getElem? (i := 636) (by decide +kernel)) (by decide +kernel), gi_X4, gw_in (List.mem_of_getElem? (i := 637) (by decide +kernel)) (by decide +kernel), by decide +kernel⟩
theorem vl_57 : VW RL 57 RX5 yX5_owes cX5_owes 3 (some .int) 2 := ⟨gw_in (List.mem_of_getElem? (i := 1251) (by decide +kernel)) (by decide +kernel), gw_in (List.mem_of_getElem? (i := 1252) (by decide +kernel)) (by decide +kernel), gw_in (List.mem_of_getElem? (i := 1253) (by decide +kernel)) (by decide +kernel), gi_X5, gw_in (List.mem_of_getElem? (i := 1254) (by decide +kernel)) (by decide +kernel), by decide +kernel⟩
theorem vl_58 : VW RL 58 RX4 yX4_between cX4_between 4 (some .long) 3 := ⟨gw_in (List.mem_of_getElem? (i := 639) (by decide +kernel)) (by decide +kernel), gw_in (List.mem_of_getElem? (i := 640) (by decide +kernel)) (by decide +kernel), gw_in (List.mem_of_getElem? (i := 641) (by decide +kernel)) (by decide +kernel), gi_X4, gw_in (List.mem_of_getElem? (i := 642) (by decide +kernel)) (by decide +kernel), by decide +kernel⟩
theorem vl_62 : VW RL 62 RX5 yX5_between cX5_between 4 (some .long) 3 := ⟨gw_in (List.mem_of_getElem? (i := 1258) (by decide +kernel)) (by decide +kernel), gw_in (List.mem_of_getElem? (i := 1259) (by decide +kernel)) (by decide +kernel), gw_in (List.mem_of_getElem? (i := 1260) (by decide +kernel)) (by decide +kernel), gi_X5, gw_in (List.mem_of_getElem? (i := 1261) (by decide +kernel)) (by decide +kernel), by decide +kernel⟩
theorem vl_63 : VW RL 63 RX4 yX4_back cX4_back 2 (some .long) 1 := ⟨gw_in (List.mem_of_getElem? (i := 650) (by decide +kernel)) (by decide +kernel), gw_in (List.mem_of_getElem? (i := 651) (by decide +kernel)) (by decide +kernel), gw_in (List.mem_of_getElem? (i := 652) (by decide +kernel)) (by decide +kernel), gi_X4, gw_in (List.mem_of_getElem? (i := 653) (by decide +kernel)) (by decide +kernel), by decide +kernel⟩
theorem vl_67 : VW RL 67 RX5 yX5_back cX5_back 2 (some .long) 1 := ⟨gw_in (List.mem_of_getElem? (i := 1282) (by decide +kernel)) (by decide +kernel), gw_in (List.mem_of_getElem? (i := 1283) (by decide +kernel)) (by decide +kernel), gw_in (List.mem_of_getElem? (i := 1284) (by decide +kernel)) (by decide +kernel), gi_X5, gw_in (List.mem_of_getElem? (i := 1285) (by decide +kernel)) (by decide +kernel), by decide +kernel⟩
theorem vl_68 : VW RL 68 RX4 yX4_fund cX4_fund 3 (some .int) 2 := ⟨gw_in (List.mem_of_getElem? (i := 658) (by decide +kernel)) (by decide +kernel), gw_in (List.mem_of_getElem? (i := 659) (by decide +kernel)) (by decide +kernel), gw_in (List.mem_of_getElem? (i := 660) (by decide +kernel)) (by decide +kernel), gi_X4, gw_in (List.mem_of_getElem? (i := 661) (by decide +kernel)) (by decide +kernel), by decide +kernel⟩
theorem vl_71 : VW RL 71 RX5 yX5_fund cX5_fund 3 (some .int) 2 := ⟨gw_in (List.mem_of_getElem? (i := 1289) (by decide +kernel)) (by decide +kernel), gw_in (List.mem_of_getElem? (i := 1290) (by decide +kernel)) (by decide +kernel), gw_in (List.mem_of_getElem? (i := 1291) (by decide +kernel)) (by decide +kernel), gi_X5, gw_in (List.mem_of_getElem? (i := 1292) (by decide +kernel)) (by decide +kernel), by decide +kernel⟩
theorem vl_72 : VW RL 72 RX4 yX4_pays cX4_pays 3 (some .int) 2 := ⟨gw_in (List.mem_of_getElem? (i := 663) (by decide +kernel)) (by decide +kernel), gw_in (List.mem_of_getElem? (i := 664) (by decide +kernel)) (by decide +kernel), gw_in (List.mem_of_getElem? (i := 665) (by decide +kernel)) (by decide +kernel), gi_X4, gw_in (List.mem_of_getElem? (i := 666) (by decide +kernel)) (by decide +kernel), by decide +kernel⟩
theorem vl_75 : VW RL 75 RX5 yX5_pays cX5_pays 3 (some .int) 2 := ⟨gw_in (List.mem_of_getElem? (i := 1300) (by decide +kernel)) (by decide +kernel), gw_in (List.mem_of_getElem? (i := 1301) (by decide +kernel)) (by decide +kernel), gw_in (List.mem_of_getElem? (i := 1302) (by decide +kernel)) (by decide +kernel), gi_X5, gw_in (List.mem_of_getElem? (i := 1303) (by decide +kernel)) (by decide +kernel), by decide +kernel⟩
theorem vl_76 : VW RL 76 RX4 yX4_paysTo cX4_paysTo 3 (some .long) 2 := ⟨gw_in (List.mem_of_getElem? (i := 671) (by decide +kernel)) (by decide +kernel), gw_in (List.mem_of_getElem? (i := 672) (by decide +kernel)) (by decide +kernel), gw_in (List.mem_of_getElem? (i := 673) (by decide +kernel)) (by decide +kernel), gi_X4, gw_in (List.mem_of_getElem? (i := 674) (by decide +kernel)) (by decide +kernel), by decide +kernel⟩
theorem vl_80 : VW RL 80 RX5 yX5_paysTo cX5_paysTo 3 (some .long) 2 := ⟨gw_in (List.mem_of_getElem? (i := 1340) (by decide +kernel)) (by decide +kernel), gw_in (List.mem_of_getElem? (i := 1341) (by decide +kernel)) (by decide +kernel), gw_in (List.mem_of_getElem? (i := 1342) (by decide +kernel)) (by decide +kernel), gi_X5, gw_in (List.mem_of_getElem? (i := 1343) (by decide +kernel)) (by decide +kernel), by decide +kernel⟩
theorem vl_81 : VW RL 81 RX4 yX4_sum cX4_sum 3 (some .long) 2 := ⟨gw_in (List.mem_of_getElem? (i := 679) (by decide +kernel)) (by decide +kernel), gw_in (List.mem_of_getElem? (i := 680) (by decide +kernel)) (by decide +kernel), gw_in (List.mem_of_getElem? (i := 681) (by decide +kernel)) (by decide +kernel), gi_X4, gw_in (List.mem_of_getElem? (i := 682) (by decide +kernel)) (by decide +kernel), by decide +kernel⟩
theorem vl_84 : VW RL 84 RX5 yX5_sum cX5_sum 3 (some .long) 2 := ⟨gw_in (List.mem_of_getElem? (i := 1344) (by decide +kernel)) (by decide +kernel), gw_in (List.mem_of_getElem? (i := 1345) (by decide +kernel)) (by decide +kernel), gw_in (List.mem_of_getElem? (i := 1346) (by decide +kernel)) (by decide +kernel), gi_X5, gw_in (List.mem_of_getElem? (i := 1347) (by decide +kernel)) (by decide +kernel), by decide +kernel⟩
theorem vl_85 : VW RL 85 RX4 yX4_bites cX4_bites 2 (some .int) 1 := ⟨gw_in (List.mem_of_getElem? (i := 694) (by decide +kernel)) (by decide +kernel), gw_in (List.mem_of_getElem? (i := 695) (by decide +kernel)) (by decide +kernel), gw_in (List.mem_of_getElem? (i := 696) (by decide +kernel)) (by decide +kernel), gi_X4, gw_in (List.mem_of_getElem? (i := 697) (by decide +kernel)) (by decide +kernel), by decide +kernel⟩
theorem vl_88 : VW RL 88 RX5 yX5_bites cX5_bites 2 (some .int) 1 := ⟨gw_in (List.mem_of_getElem? (i := 1356) (by decide +kernel)) (by decide +kernel), gw_in (List.mem_of_getElem? (i := 1357) (by decide +kernel)) (by decide +kernel), gw_in (List.mem_of_getElem? (i := 1358) (by decide +kernel)) (by decide +kernel), gi_X5, gw_in (List.mem_of_getElem? (i := 1359) (by decide +kernel)) (by decide +kernel), by decide +kernel⟩
theorem vl_89 : VW RL 89 RX4 yX4_gets cX4_gets 3 (some .long) 2 := ⟨gw_in (List.mem_of_getElem? (i := 698) (by decide +kernel)) (by decide +kernel), gw_in (List.mem_of_getElem? (i := 699) (by decide +kernel)) (by decide +kernel), gw_in (List.mem_of_getElem? (i := 700) (by decide +kernel)) (by decide +kernel), gi_X4, gw_in (List.mem_of_getElem? (i := 701) (by decide +kernel)) (by decide +kernel), by decide +kernel⟩
theorem vl_92 : VW RL 92 RX5 yX5_gets cX5_gets 3 (some .long) 2 := ⟨gw_in (List.mem_of_getElem? (i := 1360) (by decide +kernel)) (by decide +kernel), gw_in (List.mem_of_getElem? (i := 1361) (by decide +kernel)) (by decide +kernel), gw_in (List.mem_of_getElem? (i := 1362) (by decide +kernel)) (by decide +kernel), gi_X5, gw_in (List.mem_of_getElem? (i := 1363) (by decide +kernel)) (by decide +kernel), by decide +kernel⟩
theorem vl_93 : VW RL 93 RX4 yX4_cover cX4_cover 5 (some .long) 2 := ⟨gw_in (List.mem_of_getElem? (i := 718) (by decide +kernel)) (by decide +kernel), gw_in (List.mem_of_getElem? (i := 719) (by decide +kernel)) (by decide +kernel), gw_in (List.mem_of_getElem? (i := 720) (by decide +kernel)) (by decide +kernel), gi_X4, gw_in (List.mem_of_getElem? (i := 721) (by decide +kernel)) (by decide +kernel), by decide +kernel⟩
theorem vl_96 : VW RL 96 RX5 yX5_cover cX5_cover 7 (some .long) 2 := ⟨gw_in (List.mem_of_getElem? (i := 1373) (by decide +kernel)) (by decide +kernel), gw_in (List.mem_of_getElem? (i := 1374) (by decide +kernel)) (by decide +kernel), gw_in (List.mem_of_getElem? (i := 1375) (by decide +kernel)) (by decide +kernel), gi_X5, gw_in (List.mem_of_getElem? (i := 1376) (by decide +kernel)) (by decide +kernel), by decide +kernel⟩
theorem vl_97 : VW RL 97 RX4 yX4_net cX4_net 2 (some .long) 1 := ⟨gw_in (List.mem_of_getElem? (i := 736) (by decide +kernel)) (by decide +kernel), gw_in (List.mem_of_getElem? (i := 737) (by decide +kernel)) (by decide +kernel), gw_in (List.mem_of_getElem? (i := 738) (by decide +kernel)) (by decide +kernel), gi_X4, gw_in (List.mem_of_getElem? (i := 739) (by decide +kernel)) (by decide +kernel), by decide +kernel⟩
theorem vl_100 : VW RL 100 RX5 yX5_net cX5_net 2 (some .long) 1 := ⟨gw_in (List.mem_of_getElem? (i := 1377) (by decide +kernel)) (by decide +kernel), gw_in (List.mem_of_getElem? (i := 1378) (by decide +kernel)) (by decide +kernel), gw_in (List.mem_of_getElem? (i := 1379) (by decide +kernel)) (by decide +kernel), gi_X5, gw_in (List.mem_of_getElem? (i := 1380) (by decide +kernel)) (by decide +kernel), by decide +kernel⟩
theorem vl_101 : VW RL 101 RX4 yX4_netBy cX4_netBy 3 (some .long) 2 := ⟨gw_in (List.mem_of_getElem? (i := 750) (by decide +kernel)) (by decide +kernel), gw_in (List.mem_of_getElem? (i := 751) (by decide +kernel)) (by decide +kernel), gw_in (List.mem_of_getElem? (i := 752) (by decide +kernel)) (by decide +kernel), gi_X4, gw_in (List.mem_of_getElem? (i := 753) (by decide +kernel)) (by decide +kernel), by decide +kernel⟩
theorem vl_104 : VW RL 104 RX5 yX5_netBy cX5_netBy 3 (some .long) 2 := ⟨gw_in (List.mem_of_getElem? (i := 1386) (by decide +kernel)) (by decide +kernel), gw_in (List.mem_of_getElem? (i := 1387) (by decide +kernel)) (by decide +kernel), gw_in (List.mem_of_getElem? (i := 1388) (by decide +kernel)) (by decide +kernel), gi_X5, gw_in (List.mem_of_getElem? (i := 1389) (by decide +kernel)) (by decide +kernel), by decide +kernel⟩
theorem vl_105 : VW RL 105 RX4 yX4_wished cX4_wished 8 (some .int) 1 := ⟨gw_in (List.mem_of_getElem? (i := 758) (by decide +kernel)) (by decide +kernel), gw_in (List.mem_of_getElem? (i := 759) (by decide +kernel)) (by decide +kernel), gw_in (List.mem_of_getElem? (i := 760) (by decide +kernel)) (by decide +kernel), gi_X4, gw_in (List.mem_of_getElem? (i := 761) (by decide +kernel)) (by decide +kernel), by decide +kernel⟩
theorem vl_108 : VW RL 108 RX5 yX5_wished cX5_wished 8 (some .int) 1 := ⟨gw_in (List.mem_of_getElem? (i := 1395) (by decide +kernel)) (by decide +kernel), gw_in (List.mem_of_getElem? (i := 1396) (by decide +kernel)) (by decide +kernel), gw_in (List.mem_of_getElem? (i := 1397) (by decide +kernel)) (by decide +kernel), gi_X5, gw_in (List.mem_of_getElem? (i := 1398) (by decide +kernel)) (by decide +kernel), by decide +kernel⟩
theorem vl_109 : VW RL 109 RX4 yX4_gap cX4_gap 3 (some .long) 1 := ⟨gw_in (List.mem_of_getElem? (i := 762) (by decide +kernel)) (by decide +kernel), gw_in (List.mem_of_getElem? (i := 763) (by decide +kernel)) (by decide +kernel), gw_in (List.mem_of_getElem? (i := 764) (by decide +kernel)) (by decide +kernel), gi_X4, gw_in (List.mem_of_getElem? (i := 765) (by decide +kernel)) (by decide +kernel), by decide +kernel⟩
theorem vl_112 : VW RL 112 RX5 yX5_gap cX5_gap 5 (some .long) 1 := ⟨gw_in (List.mem_of_getElem? (i := 1399) (by decide +kernel)) (by decide +kernel), gw_in (List.mem_of_getElem? (i := 1400) (by decide +kernel)) (by decide +kernel), gw_in (List.mem_of_getElem? (i := 1401) (by decide +kernel)) (by decide +kernel), gi_X5, gw_in (List.mem_of_getElem? (i := 1402) (by decide +kernel)) (by decide +kernel), by decide +kernel⟩
theorem vl_113 : VW RL 113 RX4 yX4_enough cX4_enough 4 (some .int) 0 := ⟨gw_in (List.mem_of_getElem? (i := 766) (by decide +kernel)) (by decide +kernel), gw_in (List.mem_of_getElem? (i := 767) (by decide +kernel)) (by decide +kernel), gw_in (List.mem_of_getElem? (i := 768) (by decide +kernel)) (by decide +kernel), gi_X4, gw_in (List.mem_of_getElem? (i := 769) (by decide +kernel)) (by decide +kernel), by decide +kernel⟩
theorem vl_116 : VW RL 116 RX5 yX5_enough cX5_enough 10 (some .int) 0 := ⟨gw_in (List.mem_of_getElem? (i := 1403) (by decide +kernel)) (by decide +kernel), gw_in (List.mem_of_getElem? (i := 1404) (by decide +kernel)) (by decide +kernel), gw_in (List.mem_of_getElem? (i := 1405) (by decide +kernel)) (by decide +kernel), gi_X5, gw_in (List.mem_of_getElem? (i := 1406) (by decide +kernel)) (by decide +kernel), by decide +kernel⟩
theorem vl_117 : VW RL 117 RX4 yX4_would cX4_would 4 (some .long) 3 := ⟨gw_in (List.mem_of_getElem? (i := 784) (by decide +kernel)) (by decide +kernel), gw_in (List.mem_of_getElem? (i := 785) (by decide +kernel)) (by decide +kernel), gw_in (List.mem_of_getElem? (i := 786) (by decide +kernel)) (by decide +kernel), gi_X4, gw_in (List.mem_of_getElem? (i := 787) (by decide +kernel)) (by decide +kernel), by decide +kernel⟩
theorem vl_120 : VW RL 120 RX5 yX5_would cX5_would 4 (some .long) 3 := ⟨gw_in (List.mem_of_getElem? (i := 1412) (by decide +kernel)) (by decide +kernel), gw_in (List.mem_of_getElem? (i := 1413) (by decide +kernel)) (by decide +kernel), gw_in (List.mem_of_getElem? (i := 1414) (by decide +kernel)) (by decide +kernel), gi_X5, gw_in (List.mem_of_getElem? (i := 1415) (by decide +kernel)) (by decide +kernel), by decide +kernel⟩
theorem vl_121 : VW RL 121 RX4 yX4_worse cX4_worse 6 (some .int) 3 := ⟨gw_in (List.mem_of_getElem? (i := 797) (by decide +kernel)) (by decide +kernel), gw_in (List.mem_of_getElem? (i := 798) (by decide +kernel)) (by decide +kernel), gw_in (List.mem_of_getElem? (i := 799) (by decide +kernel)) (by decide +kernel), gi_X4, gw_in (List.mem_of_getElem? (i := 800) (by decide +kernel)) (by decide +kernel), by decide +kernel⟩
theorem vl_125 : VW RL 125 RX5 yX5_worse cX5_worse 6 (some .int) 3 := ⟨gw_in (List.mem_of_getElem? (i := 1420) (by decide +kernel)) (by decide +kernel), gw_in (List.mem_of_getElem? (i := 1421) (by decide +kernel)) (by decide +kernel), gw_in (List.mem_of_getElem? (i := 1422) (by decide +kernel)) (by decide +kernel), gi_X5, gw_in (List.mem_of_getElem? (i := 1423) (by decide +kernel)) (by decide +kernel), by decide +kernel⟩
theorem vl_126 : VW RL 126 RX4 yX4_judged cX4_judged 16 (some .long) 4 := ⟨gw_in (List.mem_of_getElem? (i := 803) (by decide +kernel)) (by decide +kernel), gw_in (List.mem_of_getElem? (i := 804) (by decide +kernel)) (by decide +kernel), gw_in (List.mem_of_getElem? (i := 805) (by decide +kernel)) (by decide +kernel), gi_X4, gw_in (List.mem_of_getElem? (i := 806) (by decide +kernel)) (by decide +kernel), by decide +kernel⟩
theorem vl_130 : VW RL 130 RX5 yX5_judged cX5_judged 14 (some .long) 4 := ⟨gw_in (List.mem_of_getElem? (i := 1426) (by decide +kernel)) (by decide +kernel), gw_in (List.mem_of_getElem? (i := 1427) (by decide +kernel)) (by decide +kernel), gw_in (List.mem_of_getElem? (i := 1428) (by decide +kernel)) (by decide +kernel), gi_X5, gw_in (List.mem_of_getElem? (i := 1429) (by decide +kernel)) (by decide +kernel), by decide +kernel⟩
theorem vl_131 : VW RL 131 RX4 yX4_all cX4_all 4 (some .long) 0 := ⟨gw_in (List.mem_of_getElem? (i := 815) (by decide +kernel)) (by decide +kernel), gw_in (List.mem_of_getElem? (i := 816) (by decide +kernel)) (by decide +kernel), gw_in (List.mem_of_getElem? (i := 817) (by decide +kernel)) (by decide +kernel), gi_X4, gw_in (List.mem_of_getElem? (i := 818) (by decide +kernel)) (by decide +kernel), by decide +kernel⟩
theorem vl_135 : VW RL 135 RX5 yX5_all cX5_all 4 (some .long) 0 := ⟨gw_in (List.mem_of_getElem? (i := 1442) (by decide +kernel)) (by decide +kernel), gw_in (List.mem_of_getElem? (i := 1443) (by decide +kernel)) (by decide +kernel), gw_in (List.mem_of_getElem? (i := 1444) (by decide +kernel)) (by decide +kernel), gi_X5, gw_in (List.mem_of_getElem? (i := 1445) (by decide +kernel)) (by decide +kernel), by decide +kernel⟩
theorem vl_136 : VW RL 136 RX4 yX4_shift cX4_shift 4 (some .int) 3 := ⟨gw_in (List.mem_of_getElem? (i := 819) (by decide +kernel)) (by decide +kernel), gw_in (List.mem_of_getElem? (i := 820) (by decide +kernel)) (by decide +kernel), gw_in (List.mem_of_getElem? (i := 821) (by decide +kernel)) (by decide +kernel), gi_X4, gw_in (List.mem_of_getElem? (i := 822) (by decide +kernel)) (by decide +kernel), by decide +kernel⟩
theorem vl_139 : VW RL 139 RX5 yX5_shift cX5_shift 4 (some .int) 3 := ⟨gw_in (List.mem_of_getElem? (i := 1446) (by decide +kernel)) (by decide +kernel), gw_in (List.mem_of_getElem? (i := 1447) (by decide +kernel)) (by decide +kernel), gw_in (List.mem_of_getElem? (i := 1448) (by decide +kernel)) (by decide +kernel), gi_X5, gw_in (List.mem_of_getElem? (i := 1449) (by decide +kernel)) (by decide +kernel), by decide +kernel⟩
theorem vl_140 : VW RL 140 RX4 yX4_file cX4_file 5 (some .int) 4 := ⟨gw_in (List.mem_of_getElem? (i := 828) (by decide +kernel)) (by decide +kernel), gw_in (List.mem_of_getElem? (i := 829) (by decide +kernel)) (by decide +kernel), gw_in (List.mem_of_getElem? (i := 830) (by decide +kernel)) (by decide +kernel), gi_X4, gw_in (List.mem_of_getElem? (i := 831) (by decide +kernel)) (by decide +kernel), by decide +kernel⟩
theorem vl_144 : VW RL 144 RX5 yX5_file cX5_file 6 (some .int) 4 := ⟨gw_in (List.mem_of_getElem? (i := 1454) (by decide +kernel)) (by decide +kernel), gw_in (List.mem_of_getElem? (i := 1455) (by decide +kernel)) (by decide +kernel), gw_in (List.mem_of_getElem? (i := 1456) (by decide +kernel)) (by decide +kernel), gi_X5, gw_in (List.mem_of_getElem? (i := 1457) (by decide +kernel)) (by decide +kernel), by decide +kernel⟩
theorem vl_145 : VW RL 145 RX4 yX4_withdraw cX4_withdraw 2 (some .int) 1 := ⟨gw_in (List.mem_of_getElem? (i := 833) (by decide +kernel)) (by decide +kernel), gw_in (List.mem_of_getElem? (i := 834) (by decide +kernel)) (by decide +kernel), gw_in (List.mem_of_getElem? (i := 835) (by decide +kernel)) (by decide +kernel), gi_X4, gw_in (List.mem_of_getElem? (i := 836) (by decide +kernel)) (by decide +kernel), by decide +kernel⟩
theorem vl_148 : VW RL 148 RX5 yX5_withdraw cX5_withdraw 3 (some .int) 1 := ⟨gw_in (List.mem_of_getElem? (i := 1459) (by decide +kernel)) (by decide +kernel), gw_in (List.mem_of_getElem? (i := 1460) (by decide +kernel)) (by decide +kernel), gw_in (List.mem_of_getElem? (i := 1461) (by decide +kernel)) (by decide +kernel), gi_X5, gw_in (List.mem_of_getElem? (i := 1462) (by decide +kernel)) (by decide +kernel), by decide +kernel⟩
theorem vl_149 : VW RL 149 RX4 yX4_become cX4_become 5 (some .int) 3 := ⟨gw_in (List.mem_of_getElem? (i := 841) (by decide +kernel)) (by decide +kernel), gw_in (List.mem_of_getElem? (i := 842) (by decide +kernel)) (by decide +kernel), gw_in (List.mem_of_getElem? (i := 843) (by decide +kernel)) (by decide +kernel), gi_X4, gw_in (List.mem_of_getElem? (i := 844) (by decide +kernel)) (by decide +kernel), by decide +kernel⟩
theorem vl_152 : VW RL 152 RX5 yX5_become cX5_become 5 (some .int) 3 := ⟨gw_in (List.mem_of_getElem? (i := 1463) (by decide +kernel)) (by decide +kernel), gw_in (List.mem_of_getElem? (i := 1464) (by decide +kernel)) (by decide +kernel), gw_in (List.mem_of_getElem? (i := 1465) (by decide +kernel)) (by decide +kernel), gi_X5, gw_in (List.mem_of_getElem? (i := 1466) (by decide +kernel)) (by decide +kernel), by decide +kernel⟩
theorem vl_153 : VW RL 153 RX4 yX4_law cX4_law 4 (some .int) 2 := ⟨gw_in (List.mem_of_getElem? (i := 847) (by decide +kernel)) (by decide +kernel), gw_in (List.mem_of_getElem? (i := 848) (by decide +kernel)) (by decide +kernel), gw_in (List.mem_of_getElem? (i := 849) (by decide +kernel)) (by decide +kernel), gi_X4, gw_in (List.mem_of_getElem? (i := 850) (by decide +kernel)) (by decide +kernel), by decide +kernel⟩
theorem vl_156 : VW RL 156 RX5 yX5_law cX5_law 6 (some .int) 2 := ⟨gw_in (List.mem_of_getElem? (i := 1471) (by decide +kernel)) (by decide +kernel), gw_in (List.mem_of_getElem? (i := 1472) (by decide +kernel)) (by decide +kernel), gw_in (List.mem_of_getElem? (i := 1473) (by decide +kernel)) (by decide +kernel), gi_X5, gw_in (List.mem_of_getElem? (i := 1474) (by decide +kernel)) (by decide +kernel), by decide +kernel⟩
theorem vl_157 : VW RL 157 RX4 yX4_undo cX4_undo 1 (some .int) 0 := ⟨gw_in (List.mem_of_getElem? (i := 853) (by decide +kernel)) (by decide +kernel), gw_in (List.mem_of_getElem? (i := 854) (by decide +kernel)) (by decide +kernel), gw_in (List.mem_of_getElem? (i := 855) (by decide +kernel)) (by decide +kernel), gi_X4, gw_in (List.mem_of_getElem? (i := 856) (by decide +kernel)) (by decide +kernel), by decide +kernel⟩
theorem vl_160 : VW RL 160 RX5 yX5_undo cX5_undo 2 (some .int) 0 := ⟨gw_in (List.mem_of_getElem? (i := 1476) (by decide +kernel)) (by decide +kernel), gw_in (List.mem_of_getElem? (i := 1477) (by decide +kernel)) (by decide +kernel), gw_in (List.mem_of_getElem? (i := 1478) (by decide +kernel)) (by decide +kernel), gi_X5, gw_in (List.mem_of_getElem? (i := 1479) (by decide +kernel)) (by decide +kernel), by decide +kernel⟩
theorem vl_161 : VW RL 161 RX4 yX4_image cX4_image 2 (some .boolean) 1 := ⟨gw_in (List.mem_of_getElem? (i := 857) (by decide +kernel)) (by decide +kernel), gw_in (List.mem_of_getElem? (i := 858) (by decide +kernel)) (by decide +kernel), gw_in (List.mem_of_getElem? (i := 859) (by decide +kernel)) (by decide +kernel), gi_X4, gw_in (List.mem_of_getElem? (i := 860) (by decide +kernel)) (by decide +kernel), by decide +kernel⟩
theorem vl_165 : VW RL 165 RX5 yX5_image cX5_image 3 (some .boolean) 1 := ⟨gw_in (List.mem_of_getElem? (i := 1480) (by decide +kernel)) (by decide +kernel), gw_in (List.mem_of_getElem? (i := 1481) (by decide +kernel)) (by decide +kernel), gw_in (List.mem_of_getElem? (i := 1482) (by decide +kernel)) (by decide +kernel), gi_X5, gw_in (List.mem_of_getElem? (i := 1483) (by decide +kernel)) (by decide +kernel), by decide +kernel⟩
theorem vl_166 : VW RL 166 RX4 yX4_again cX4_again 2 (some .boolean) 1 := ⟨gw_in (List.mem_of_getElem? (i := 861) (by decide +kernel)) (by decide +kernel), gw_in (List.mem_of_getElem? (i := 862) (by decide +kernel)) (by decide +kernel), gw_in (List.mem_of_getElem? (i := 863) (by decide +kernel)) (by decide +kernel), gi_X4, gw_in (List.mem_of_getElem? (i := 864) (by decide +kernel)) (by decide +kernel), by decide +kernel⟩
theorem vl_169 : VW RL 169 RX5 yX5_again cX5_again 3 (some .boolean) 1 := ⟨gw_in (List.mem_of_getElem? (i := 1484) (by decide +kernel)) (by decide +kernel), gw_in (List.mem_of_getElem? (i := 1485) (by decide +kernel)) (by decide +kernel), gw_in (List.mem_of_getElem? (i := 1486) (by decide +kernel)) (by decide +kernel), gi_X5, gw_in (List.mem_of_getElem? (i := 1487) (by decide +kernel)) (by decide +kernel), by decide +kernel⟩
theorem vl_175 : VW RL 175 RX5 yX5_letter cX5_letter 7 (some .int) 2 := ⟨gw_in (List.mem_of_getElem? (i := 1236) (by decide +kernel)) (by decide +kernel), gw_in (List.mem_of_getElem? (i := 1237) (by decide +kernel)) (by decide +kernel), gw_in (List.mem_of_getElem? (i := 1238) (by decide +kernel)) (by decide +kernel), gi_X5, gw_in (List.mem_of_getElem? (i := 1239) (by decide +kernel)) (by decide +kernel), by decide +kernel⟩
theorem vl_176 : VW RL 176 RX5 yX5_thrown cX5_thrown 1 (some .int) 0 := ⟨gw_in (List.mem_of_getElem? (i := 1039) (by decide +kernel)) (by decide +kernel), gw_in (List.mem_of_getElem? (i := 1040) (by decide +kernel)) (by decide +kernel), gw_in (List.mem_of_getElem? (i := 1041) (by decide +kernel)) (by decide +kernel), gi_X5, gw_in (List.mem_of_getElem? (i := 1042) (by decide +kernel)) (by decide +kernel), by decide +kernel⟩
theorem vl_179 : VW RL 179 RX4 yX4_size cX4_size 1 (some .int) 0 := ⟨gw_in (List.mem_of_getElem? (i := 865) (by decide +kernel)) (by decide +kernel), gw_in (List.mem_of_getElem? (i := 866) (by decide +kernel)) (by decide +kernel), gw_in (List.mem_of_getElem? (i := 867) (by decide +kernel)) (by decide +kernel), gi_X4, gw_in (List.mem_of_getElem? (i := 868) (by decide +kernel)) (by decide +kernel), by decide +kernel⟩
theorem vl_182 : VW RL 182 RX5 yX5_size cX5_size 1 (some .int) 0 := ⟨gw_in (List.mem_of_getElem? (i := 1047) (by decide +kernel)) (by decide +kernel), gw_in (List.mem_of_getElem? (i := 1048) (by decide +kernel)) (by decide +kernel), gw_in (List.mem_of_getElem? (i := 1049) (by decide +kernel)) (by decide +kernel), gi_X5, gw_in (List.mem_of_getElem? (i := 1050) (by decide +kernel)) (by decide +kernel), by decide +kernel⟩
theorem vl_183 : VW RL 183 RX4 yX4_trouble cX4_trouble 1 (some .int) 0 := ⟨gw_in (List.mem_of_getElem? (i := 869) (by decide +kernel)) (by decide +kernel), gw_in (List.mem_of_getElem? (i := 870) (by decide +kernel)) (by decide +kernel), gw_in (List.mem_of_getElem? (i := 871) (by decide +kernel)) (by decide +kernel), gi_X4, gw_in (List.mem_of_getElem? (i := 872) (by decide +kernel)) (by decide +kernel), by decide +kernel⟩
theorem vl_186 : VW RL 186 RX5 yX5_trouble cX5_trouble 1 (some .int) 0 := ⟨gw_in (List.mem_of_getElem? (i := 1197) (by decide +kernel)) (by decide +kernel), gw_in (List.mem_of_getElem? (i := 1198) (by decide +kernel)) (by decide +kernel), gw_in (List.mem_of_getElem? (i := 1199) (by decide +kernel)) (by decide +kernel), gi_X5, gw_in (List.mem_of_getElem? (i := 1200) (by decide +kernel)) (by decide +kernel), by decide +kernel⟩
theorem pw (x o m : va_W) : (x ++ (o ++ m)).Perm (m ++ (o ++ x)) := (pm1 o x m).symm.symm.trans (((List.perm_append_comm (l₁ := x) (l₂ := m)).append_left o).trans (pm1 m o x).symm.symm)
theorem pw2 (m o x : va_W) : (m ++ (o ++ x)).Perm (o ++ (m ++ x)) := (pm1 m o x).symm
theorem lgc (r : Int64) : lg_cmp r r = 0 := by
  unfold lg_cmp
  rw [if_neg (show ¬ (r > r) from Int64.lt_irrefl), if_pos rfl]
theorem rdLet (f : Fin 1 → Int64) (x : Int64) : rdL (upL f 0 x) 0 = some x := by
  have h := rL (upL f 0 x) (k := 0) (by decide) (by decide)
  exact h.trans (congrArg some rfl)
theorem inK {i k L : Nat} (hi : i + 6 ≤ L) (hk : k < 6) (hL : L ≤ 3072) : vp_in (nI i + nI k) L := by
  rw [nI_add]
  exact vp_in_nI (by omega) (by omega)
def LAWK (p : Program) (l : Launch) (s : State) (m : MethodId) (c : Code) (b L : Nat) (xs : Nat → Int32) (G : GT) (A : Nat → Prop) : Prop :=
  p.tables.exec = Jvm.exec ∧ c.code = code ∧ c.maxLocals = 7 ∧ s.vm.findClass RL = some m.cls ∧ (∀ w ∈ GW, w.before #[Value.ref b] s = true) ∧ EV G A s s.heap ∧ ZX A s s.heap ∧ (∀ q : Nat, s.heap.size ≤ q → A q) ∧ va_X b L xs s s.heap ∧ b < s.heap.size ∧ ¬ A b ∧ l.stackTraces = false
def WW (G : GT) (a a2 : Nat → Nat) (o : Nat) (S : XS) (M : MS) (f : Fin 1 → Int64) : va_W := WM G a2 M ++ (LW G o f ++ WX G a S)
abbrev LVs (b : Nat) (a a2 : Nat → Nat) (o i : Nat) : List (Nat × Value) := [(0, .ref b), (1, .ref (a 0)), (2, .ref (a2 0)), (3, .ref o), (4, .int (nI i))]
set_option maxHeartbeats 4000000 in
set_option maxRecDepth 100000 in
theorem k_0 {p : Program} {l : Launch} {e : Env} {s : State} {m : MethodId} {below : List Frame} {meth : Method} {c : Code} {G : GT} {A : Nat → Prop} {b L i : Nat} {xs : Nat → Int32} {a a2 : Nat → Nat} {o : Nat} {S : XS} {M : MS} {f : Fin 1 → Int64} {H : Heap} {locs : List Loc} {cells slots : Nat} {Q : State → Prop} {ls : Array Slot} (K : LAWK p l s m c b L xs G A) (hi : i + 6 ≤ L) (hL : L ≤ 3072) (hr : Rel S M) (hs : SI G A s H locs (WW G a a2 o S M f)) (hl : lv_has ls 7 (LVs b a a2 o i)) (hc : cells + 1 ≤ 601024) (hsl : slots + 6 ≤ 7293034)
    (hk : ∀ (S' : XS) (M' : MS) (f' : Fin 1 → Int64) (H : Heap) (locs : List Loc) (ls : Array Slot), Rel S' M' → SI G A s H locs (WW G a a2 o S' M' f') → lv_has ls 7 (LVs b a a2 o i) → W p l e room_1 s m #[Value.ref b] below meth c H locs (cells + 1) (slots + 6) Q (F0 m 1513 ls [])) : W p l e room_1 s m #[Value.ref b] below meth c H locs cells slots Q (F0 m 208 ls []) := by
  obtain ⟨hx, hb, hml, hown, hts, hE, hZ, hA, hX, hbl, hbA, hfl⟩ := K
  have hs := sx_perm hs (pw _ _ _)
  refine lv_aload_n hx hb dL_law_208 rfl (lv_at hl 1 rfl) ?_
  refine lv_aload_n hx hb dL_law_209 rfl (lv_at hl 0 rfl) ?_
  refine lv_iload hx hb dL_law_210 (lv_at hl 4 rfl) ?_
  refine lv_iconst (v := (1 : Int32)) hx hb dL_law_212 (by decide) ?_
  refine lv_iadd hx hb dL_law_213 ?_
  refine va_sld hx hb hX hbl hbA hs.2.2 (inK (k := 1) hi (by decide) hL) dL_law_214 ?_
  refine lv_aload_n hx hb dL_law_215 rfl (lv_at hl 0 rfl) ?_
  refine lv_iload hx hb dL_law_216 (lv_at hl 4 rfl) ?_
  refine lv_iconst (v := (2 : Int32)) hx hb dL_law_218 (by decide) ?_
  refine lv_iadd hx hb dL_law_219 ?_
  refine va_sld hx hb hX hbl hbA hs.2.2 (inK (k := 2) hi (by decide) hL) dL_law_220 ?_
  refine lv_aload_n hx hb dL_law_221 rfl (lv_at hl 0 rfl) ?_
  refine lv_iload hx hb dL_law_222 (lv_at hl 4 rfl) ?_
  refine lv_iconst (v := (3 : Int32)) hx hb dL_law_224 (by decide) ?_
  refine lv_iadd hx hb dL_law_225 ?_
  refine va_sld hx hb hX hbl hbA hs.2.2 (inK (k := 3) hi (by decide) hL) dL_law_226 ?_
  refine lv_aload_n hx hb dL_law_227 rfl (lv_at hl 0 rfl) ?_
  refine lv_iload hx hb dL_law_228 (lv_at hl 4 rfl) ?_
  refine lv_iconst (v := (4 : Int32)) hx hb dL_law_230 (by decide) ?_
  refine lv_iadd hx hb dL_law_231 ?_
  refine va_sld hx hb hX hbl hbA hs.2.2 (inK (k := 4) hi (by decide) hL) dL_law_232 ?_
  refine lv_aload_n hx hb dL_law_233 rfl (lv_at hl 0 rfl) ?_
  refine lv_iload hx hb dL_law_234 (lv_at hl 4 rfl) ?_
  refine lv_iconst (v := (5 : Int32)) hx hb dL_law_236 (by decide) ?_
  refine lv_iadd hx hb dL_law_237 ?_
  refine va_sld hx hb hX hbl hbA hs.2.2 (inK (k := 5) hi (by decide) hL) dL_law_238 ?_
  obtain ⟨r, S2, M2, e1, e2, hr2⟩ := A_feed hr (xs (nI i + (1 : Int32)).toNatClampNeg) (xs (nI i + (2 : Int32)).toNatClampNeg) (xs (nI i + (3 : Int32)).toNatClampNeg) (xs (nI i + (4 : Int32)).toNatClampNeg) (xs (nI i + (5 : Int32)).toNatClampNeg)
  refine sx_V (As := [.int (xs (nI i + (1 : Int32)).toNatClampNeg), .int (xs (nI i + (2 : Int32)).toNatClampNeg), .int (xs (nI i + (3 : Int32)).toNatClampNeg), .int (xs (nI i + (4 : Int32)).toNatClampNeg), .int (xs (nI i + (5 : Int32)).toNatClampNeg)]) (rest := []) (st1 := [.int r]) (c_X4_feed G l a S (xs (nI i + (1 : Int32)).toNatClampNeg) (xs (nI i + (2 : Int32)).toNatClampNeg) (xs (nI i + (3 : Int32)).toNatClampNeg) (xs (nI i + (4 : Int32)).toNatClampNeg) (xs (nI i + (5 : Int32)).toNatClampNeg) (r, S2) e1) vl_19 ⟨(Nat.le_of_ble_eq_true rfl), (Nat.le_of_ble_eq_true rfl)⟩ hx hb hml hown hts hE hA hs ⟨Nat.le_of_succ_le hc, Nat.le_trans (Nat.le_add_right _ 6) hsl⟩ 0 rfl rfl rfl rfl rfl hl.1 (Nat.le_of_ble_eq_true rfl) dL_law_239 (List.Perm.refl _) (ws' := WW G a a2 o S2 M f) (pw _ _ _) (fun H locs hs => ?_)
  refine lv_aload_n hx hb dL_law_242 rfl (lv_at hl 2 rfl) ?_
  refine lv_aload_n hx hb dL_law_243 rfl (lv_at hl 0 rfl) ?_
  refine lv_iload hx hb dL_law_244 (lv_at hl 4 rfl) ?_
  refine lv_iconst (v := (1 : Int32)) hx hb dL_law_246 (by decide) ?_
  refine lv_iadd hx hb dL_law_247 ?_
  refine va_sld hx hb hX hbl hbA hs.2.2 (inK (k := 1) hi (by decide) hL) dL_law_248 ?_
  refine lv_aload_n hx hb dL_law_249 rfl (lv_at hl 0 rfl) ?_
  refine lv_iload hx hb dL_law_250 (lv_at hl 4 rfl) ?_
  refine lv_iconst (v := (2 : Int32)) hx hb dL_law_252 (by decide) ?_
  refine lv_iadd hx hb dL_law_253 ?_
  refine va_sld hx hb hX hbl hbA hs.2.2 (inK (k := 2) hi (by decide) hL) dL_law_254 ?_
  refine lv_aload_n hx hb dL_law_255 rfl (lv_at hl 0 rfl) ?_
  refine lv_iload hx hb dL_law_256 (lv_at hl 4 rfl) ?_
  refine lv_iconst (v := (3 : Int32)) hx hb dL_law_258 (by decide) ?_
  refine lv_iadd hx hb dL_law_259 ?_
  refine va_sld hx hb hX hbl hbA hs.2.2 (inK (k := 3) hi (by decide) hL) dL_law_260 ?_
  refine lv_aload_n hx hb dL_law_261 rfl (lv_at hl 0 rfl) ?_
  refine lv_iload hx hb dL_law_262 (lv_at hl 4 rfl) ?_
  refine lv_iconst (v := (4 : Int32)) hx hb dL_law_264 (by decide) ?_
  refine lv_iadd hx hb dL_law_265 ?_
  refine va_sld hx hb hX hbl hbA hs.2.2 (inK (k := 4) hi (by decide) hL) dL_law_266 ?_
  refine lv_aload_n hx hb dL_law_267 rfl (lv_at hl 0 rfl) ?_
  refine lv_iload hx hb dL_law_268 (lv_at hl 4 rfl) ?_
  refine lv_iconst (v := (5 : Int32)) hx hb dL_law_270 (by decide) ?_
  refine lv_iadd hx hb dL_law_271 ?_
  refine va_sld hx hb hX hbl hbA hs.2.2 (inK (k := 5) hi (by decide) hL) dL_law_272 ?_
  refine sx_V (As := [.int (xs (nI i + (1 : Int32)).toNatClampNeg), .int (xs (nI i + (2 : Int32)).toNatClampNeg), .int (xs (nI i + (3 : Int32)).toNatClampNeg), .int (xs (nI i + (4 : Int32)).toNatClampNeg), .int (xs (nI i + (5 : Int32)).toNatClampNeg)]) (rest := [.int r]) (st1 := [.int r, .int r]) (c_X5_feed G l a2 M (xs (nI i + (1 : Int32)).toNatClampNeg) (xs (nI i + (2 : Int32)).toNatClampNeg) (xs (nI i + (3 : Int32)).toNatClampNeg) (xs (nI i + (4 : Int32)).toNatClampNeg) (xs (nI i + (5 : Int32)).toNatClampNeg) (r, M2) e2) vl_23 ⟨(Nat.le_of_ble_eq_true rfl), (Nat.le_of_ble_eq_true rfl)⟩ hx hb hml hown hts hE hA hs ⟨Nat.le_of_succ_le hc, Nat.le_trans (Nat.le_add_right _ 6) hsl⟩ 0 rfl rfl rfl rfl rfl hl.1 (Nat.le_of_ble_eq_true rfl) dL_law_273 (List.Perm.refl _) (ws' := WW G a a2 o S2 M2 f) (List.Perm.refl _) (fun H locs hs => ?_)
  refine lv_icmp_eq (tgt := 1513) hx hb dL_law_276 (by decide) (fun hc9 => ?_) (fun hc9 => ?_)
  · exact W.widen (Nat.le_add_right _ 1) (Nat.le_add_right _ 6) (hk S2 M2 f H locs ls hr2 hs hl)
  · exact absurd rfl hc9
set_option maxHeartbeats 4000000 in
set_option maxRecDepth 100000 in
theorem k_1 {p : Program} {l : Launch} {e : Env} {s : State} {m : MethodId} {below : List Frame} {meth : Method} {c : Code} {G : GT} {A : Nat → Prop} {b L i : Nat} {xs : Nat → Int32} {a a2 : Nat → Nat} {o : Nat} {S : XS} {M : MS} {f : Fin 1 → Int64} {H : Heap} {locs : List Loc} {cells slots : Nat} {Q : State → Prop} {ls : Array Slot} (K : LAWK p l s m c b L xs G A) (hi : i + 6 ≤ L) (hL : L ≤ 3072) (hr : Rel S M) (hs : SI G A s H locs (WW G a a2 o S M f)) (hl : lv_has ls 7 (LVs b a a2 o i)) (hc : cells + 1 ≤ 601024) (hsl : slots + 6 ≤ 7293034)
    (hk : ∀ (S' : XS) (M' : MS) (f' : Fin 1 → Int64) (H : Heap) (locs : List Loc) (ls : Array Slot), Rel S' M' → SI G A s H locs (WW G a a2 o S' M' f') → lv_has ls 7 (LVs b a a2 o i) → W p l e room_1 s m #[Value.ref b] below meth c H locs (cells + 1) (slots + 6) Q (F0 m 1513 ls [])) : W p l e room_1 s m #[Value.ref b] below meth c H locs cells slots Q (F0 m 281 ls []) := by
  obtain ⟨hx, hb, hml, hown, hts, hE, hZ, hA, hX, hbl, hbA, hfl⟩ := K
  have hs := sx_perm hs (pw _ _ _)
  refine lv_aload_n hx hb dL_law_281 rfl (lv_at hl 1 rfl) ?_
  refine lv_aload_n hx hb dL_law_282 rfl (lv_at hl 0 rfl) ?_
  refine lv_iload hx hb dL_law_283 (lv_at hl 4 rfl) ?_
  refine lv_iconst (v := (1 : Int32)) hx hb dL_law_285 (by decide) ?_
  refine lv_iadd hx hb dL_law_286 ?_
  refine va_sld hx hb hX hbl hbA hs.2.2 (inK (k := 1) hi (by decide) hL) dL_law_287 ?_
  obtain ⟨r, S2, M2, e1, e2, hr2⟩ := A_textAct hr (xs (nI i + (1 : Int32)).toNatClampNeg)
  refine sx_V (As := [.int (xs (nI i + (1 : Int32)).toNatClampNeg)]) (rest := []) (st1 := [.int r]) (c_X4_text G l a S (xs (nI i + (1 : Int32)).toNatClampNeg) (r, S2) e1) vl_24 ⟨(Nat.le_of_ble_eq_true rfl), (Nat.le_of_ble_eq_true rfl)⟩ hx hb hml hown hts hE hA hs ⟨Nat.le_of_succ_le hc, Nat.le_trans (Nat.le_add_right _ 6) hsl⟩ 0 rfl rfl rfl rfl rfl hl.1 (Nat.le_of_ble_eq_true rfl) dL_law_288 (List.Perm.refl _) (ws' := WW G a a2 o S2 M f) (pw _ _ _) (fun H locs hs => ?_)
  refine lv_aload_n hx hb dL_law_291 rfl (lv_at hl 2 rfl) ?_
  refine lv_aload_n hx hb dL_law_292 rfl (lv_at hl 0 rfl) ?_
  refine lv_iload hx hb dL_law_293 (lv_at hl 4 rfl) ?_
  refine lv_iconst (v := (1 : Int32)) hx hb dL_law_295 (by decide) ?_
  refine lv_iadd hx hb dL_law_296 ?_
  refine va_sld hx hb hX hbl hbA hs.2.2 (inK (k := 1) hi (by decide) hL) dL_law_297 ?_
  refine sx_V (As := [.int (xs (nI i + (1 : Int32)).toNatClampNeg)]) (rest := [.int r]) (st1 := [.int r, .int r]) (c_X5_text G l a2 M (xs (nI i + (1 : Int32)).toNatClampNeg) (r, M2) e2) vl_28 ⟨(Nat.le_of_ble_eq_true rfl), (Nat.le_of_ble_eq_true rfl)⟩ hx hb hml hown hts hE hA hs ⟨Nat.le_of_succ_le hc, Nat.le_trans (Nat.le_add_right _ 6) hsl⟩ 0 rfl rfl rfl rfl rfl hl.1 (Nat.le_of_ble_eq_true rfl) dL_law_298 (List.Perm.refl _) (ws' := WW G a a2 o S2 M2 f) (List.Perm.refl _) (fun H locs hs => ?_)
  refine lv_icmp_eq (tgt := 1513) hx hb dL_law_301 (by decide) (fun hc9 => ?_) (fun hc9 => ?_)
  · exact W.widen (Nat.le_add_right _ 1) (Nat.le_add_right _ 6) (hk S2 M2 f H locs ls hr2 hs hl)
  · exact absurd rfl hc9
set_option maxHeartbeats 4000000 in
set_option maxRecDepth 100000 in
theorem k_2 {p : Program} {l : Launch} {e : Env} {s : State} {m : MethodId} {below : List Frame} {meth : Method} {c : Code} {G : GT} {A : Nat → Prop} {b L i : Nat} {xs : Nat → Int32} {a a2 : Nat → Nat} {o : Nat} {S : XS} {M : MS} {f : Fin 1 → Int64} {H : Heap} {locs : List Loc} {cells slots : Nat} {Q : State → Prop} {ls : Array Slot} (K : LAWK p l s m c b L xs G A) (hi : i + 6 ≤ L) (hL : L ≤ 3072) (hr : Rel S M) (hs : SI G A s H locs (WW G a a2 o S M f)) (hl : lv_has ls 7 (LVs b a a2 o i)) (hc : cells + 1 ≤ 601024) (hsl : slots + 6 ≤ 7293034)
    (hk : ∀ (S' : XS) (M' : MS) (f' : Fin 1 → Int64) (H : Heap) (locs : List Loc) (ls : Array Slot), Rel S' M' → SI G A s H locs (WW G a a2 o S' M' f') → lv_has ls 7 (LVs b a a2 o i) → W p l e room_1 s m #[Value.ref b] below meth c H locs (cells + 1) (slots + 6) Q (F0 m 1513 ls [])) : W p l e room_1 s m #[Value.ref b] below meth c H locs cells slots Q (F0 m 306 ls []) := by
  obtain ⟨hx, hb, hml, hown, hts, hE, hZ, hA, hX, hbl, hbA, hfl⟩ := K
  have hs := sx_perm hs (pw _ _ _)
  refine lv_aload_n hx hb dL_law_306 rfl (lv_at hl 1 rfl) ?_
  obtain ⟨r, M2, e1, e2, hr2⟩ := A_fault hr
  refine sx_V (As := []) (rest := []) (st1 := [.int r]) (c_X4_fault G l a S r e1) vl_29 ⟨(Nat.le_of_ble_eq_true rfl), (Nat.le_of_ble_eq_true rfl)⟩ hx hb hml hown hts hE hA hs ⟨Nat.le_of_succ_le hc, Nat.le_trans (Nat.le_add_right _ 6) hsl⟩ 0 rfl rfl rfl rfl rfl hl.1 (Nat.le_of_ble_eq_true rfl) dL_law_307 (List.Perm.refl _) (ws' := WW G a a2 o S M f) (pw _ _ _) (fun H locs hs => ?_)
  refine lv_aload_n hx hb dL_law_310 rfl (lv_at hl 2 rfl) ?_
  refine sx_V (As := []) (rest := [.int r]) (st1 := [.int r, .int r]) (c_X5_fault G l a2 M  (r, M2) e2) vl_33 ⟨(Nat.le_of_ble_eq_true rfl), (Nat.le_of_ble_eq_true rfl)⟩ hx hb hml hown hts hE hA hs ⟨Nat.le_of_succ_le hc, Nat.le_trans (Nat.le_add_right _ 6) hsl⟩ 0 rfl rfl rfl rfl rfl hl.1 (Nat.le_of_ble_eq_true rfl) dL_law_311 (List.Perm.refl _) (ws' := WW G a a2 o S M2 f) (List.Perm.refl _) (fun H locs hs => ?_)
  refine lv_icmp_eq (tgt := 1513) hx hb dL_law_314 (by decide) (fun hc9 => ?_) (fun hc9 => ?_)
  · exact W.widen (Nat.le_add_right _ 1) (Nat.le_add_right _ 6) (hk S M2 f H locs ls hr2 hs hl)
  · exact absurd rfl hc9
set_option maxHeartbeats 4000000 in
set_option maxRecDepth 100000 in
theorem k_3 {p : Program} {l : Launch} {e : Env} {s : State} {m : MethodId} {below : List Frame} {meth : Method} {c : Code} {G : GT} {A : Nat → Prop} {b L i : Nat} {xs : Nat → Int32} {a a2 : Nat → Nat} {o : Nat} {S : XS} {M : MS} {f : Fin 1 → Int64} {H : Heap} {locs : List Loc} {cells slots : Nat} {Q : State → Prop} {ls : Array Slot} (K : LAWK p l s m c b L xs G A) (hi : i + 6 ≤ L) (hL : L ≤ 3072) (hr : Rel S M) (hs : SI G A s H locs (WW G a a2 o S M f)) (hl : lv_has ls 7 (LVs b a a2 o i)) (hc : cells + 1 ≤ 601024) (hsl : slots + 6 ≤ 7293034)
    (hk : ∀ (S' : XS) (M' : MS) (f' : Fin 1 → Int64) (H : Heap) (locs : List Loc) (ls : Array Slot), Rel S' M' → SI G A s H locs (WW G a a2 o S' M' f') → lv_has ls 7 (LVs b a a2 o i) → W p l e room_1 s m #[Value.ref b] below meth c H locs (cells + 1) (slots + 6) Q (F0 m 1513 ls [])) : W p l e room_1 s m #[Value.ref b] below meth c H locs cells slots Q (F0 m 319 ls []) := by
  obtain ⟨hx, hb, hml, hown, hts, hE, hZ, hA, hX, hbl, hbA, hfl⟩ := K
  have hs := sx_perm hs (pw _ _ _)
  refine lv_aload_n hx hb dL_law_319 rfl (lv_at hl 1 rfl) ?_
  obtain ⟨r, M2, e1, e2, hr2⟩ := A_where hr
  refine sx_V (As := []) (rest := []) (st1 := [.int r]) (c_X4_where G l a S r e1) vl_34 ⟨(Nat.le_of_ble_eq_true rfl), (Nat.le_of_ble_eq_true rfl)⟩ hx hb hml hown hts hE hA hs ⟨Nat.le_of_succ_le hc, Nat.le_trans (Nat.le_add_right _ 6) hsl⟩ 0 rfl rfl rfl rfl rfl hl.1 (Nat.le_of_ble_eq_true rfl) dL_law_320 (List.Perm.refl _) (ws' := WW G a a2 o S M f) (pw _ _ _) (fun H locs hs => ?_)
  refine lv_aload_n hx hb dL_law_323 rfl (lv_at hl 2 rfl) ?_
  refine sx_V (As := []) (rest := [.int r]) (st1 := [.int r, .int r]) (c_X5_where G l a2 M  (r, M2) e2) vl_37 ⟨(Nat.le_of_ble_eq_true rfl), (Nat.le_of_ble_eq_true rfl)⟩ hx hb hml hown hts hE hA hs ⟨Nat.le_of_succ_le hc, Nat.le_trans (Nat.le_add_right _ 6) hsl⟩ 0 rfl rfl rfl rfl rfl hl.1 (Nat.le_of_ble_eq_true rfl) dL_law_324 (List.Perm.refl _) (ws' := WW G a a2 o S M2 f) (List.Perm.refl _) (fun H locs hs => ?_)
  refine lv_icmp_eq (tgt := 1513) hx hb dL_law_327 (by decide) (fun hc9 => ?_) (fun hc9 => ?_)
  · exact W.widen (Nat.le_add_right _ 1) (Nat.le_add_right _ 6) (hk S M2 f H locs ls hr2 hs hl)
  · exact absurd rfl hc9
set_option maxHeartbeats 4000000 in
set_option maxRecDepth 100000 in
theorem k_4 {p : Program} {l : Launch} {e : Env} {s : State} {m : MethodId} {below : List Frame} {meth : Method} {c : Code} {G : GT} {A : Nat → Prop} {b L i : Nat} {xs : Nat → Int32} {a a2 : Nat → Nat} {o : Nat} {S : XS} {M : MS} {f : Fin 1 → Int64} {H : Heap} {locs : List Loc} {cells slots : Nat} {Q : State → Prop} {ls : Array Slot} (K : LAWK p l s m c b L xs G A) (hi : i + 6 ≤ L) (hL : L ≤ 3072) (hr : Rel S M) (hs : SI G A s H locs (WW G a a2 o S M f)) (hl : lv_has ls 7 (LVs b a a2 o i)) (hc : cells + 1 ≤ 601024) (hsl : slots + 6 ≤ 7293034)
    (hk : ∀ (S' : XS) (M' : MS) (f' : Fin 1 → Int64) (H : Heap) (locs : List Loc) (ls : Array Slot), Rel S' M' → SI G A s H locs (WW G a a2 o S' M' f') → lv_has ls 7 (LVs b a a2 o i) → W p l e room_1 s m #[Value.ref b] below meth c H locs (cells + 1) (slots + 6) Q (F0 m 1513 ls [])) : W p l e room_1 s m #[Value.ref b] below meth c H locs cells slots Q (F0 m 332 ls []) := by
  obtain ⟨hx, hb, hml, hown, hts, hE, hZ, hA, hX, hbl, hbA, hfl⟩ := K
  have hs := sx_perm hs (pw _ _ _)
  refine lv_aload_n hx hb dL_law_332 rfl (lv_at hl 1 rfl) ?_
  refine lv_aload_n hx hb dL_law_333 rfl (lv_at hl 0 rfl) ?_
  refine lv_iload hx hb dL_law_334 (lv_at hl 4 rfl) ?_
  refine lv_iconst (v := (1 : Int32)) hx hb dL_law_336 (by decide) ?_
  refine lv_iadd hx hb dL_law_337 ?_
  refine va_sld hx hb hX hbl hbA hs.2.2 (inK (k := 1) hi (by decide) hL) dL_law_338 ?_
  obtain ⟨r, S2, M2, e1, e2, hr2⟩ := (A_about hr.core hr.undo (xs (nI i + (1 : Int32)).toNatClampNeg)).step hr
  refine sx_V (As := [.int (xs (nI i + (1 : Int32)).toNatClampNeg)]) (rest := []) (st1 := [.int r]) (c_X4_about G l a S (xs (nI i + (1 : Int32)).toNatClampNeg) (r, S2) e1) vl_38 ⟨(Nat.le_of_ble_eq_true rfl), (Nat.le_of_ble_eq_true rfl)⟩ hx hb hml hown hts hE hA hs ⟨Nat.le_of_succ_le hc, Nat.le_trans (Nat.le_add_right _ 6) hsl⟩ 0 rfl rfl rfl rfl rfl hl.1 (Nat.le_of_ble_eq_true rfl) dL_law_339 (List.Perm.refl _) (ws' := WW G a a2 o S2 M f) (pw _ _ _) (fun H locs hs => ?_)
  refine lv_aload_n hx hb dL_law_342 rfl (lv_at hl 2 rfl) ?_
  refine lv_aload_n hx hb dL_law_343 rfl (lv_at hl 0 rfl) ?_
  refine lv_iload hx hb dL_law_344 (lv_at hl 4 rfl) ?_
  refine lv_iconst (v := (1 : Int32)) hx hb dL_law_346 (by decide) ?_
  refine lv_iadd hx hb dL_law_347 ?_
  refine va_sld hx hb hX hbl hbA hs.2.2 (inK (k := 1) hi (by decide) hL) dL_law_348 ?_
  refine sx_V (As := [.int (xs (nI i + (1 : Int32)).toNatClampNeg)]) (rest := [.int r]) (st1 := [.int r, .int r]) (c_X5_about G l a2 M (xs (nI i + (1 : Int32)).toNatClampNeg) (r, M2) e2) vl_41 ⟨(Nat.le_of_ble_eq_true rfl), (Nat.le_of_ble_eq_true rfl)⟩ hx hb hml hown hts hE hA hs ⟨Nat.le_of_succ_le hc, Nat.le_trans (Nat.le_add_right _ 6) hsl⟩ 0 rfl rfl rfl rfl rfl hl.1 (Nat.le_of_ble_eq_true rfl) dL_law_349 (List.Perm.refl _) (ws' := WW G a a2 o S2 M2 f) (List.Perm.refl _) (fun H locs hs => ?_)
  refine lv_icmp_eq (tgt := 1513) hx hb dL_law_352 (by decide) (fun hc9 => ?_) (fun hc9 => ?_)
  · exact W.widen (Nat.le_add_right _ 1) (Nat.le_add_right _ 6) (hk S2 M2 f H locs ls hr2 hs hl)
  · exact absurd rfl hc9
set_option maxHeartbeats 4000000 in
set_option maxRecDepth 100000 in
theorem k_5 {p : Program} {l : Launch} {e : Env} {s : State} {m : MethodId} {below : List Frame} {meth : Method} {c : Code} {G : GT} {A : Nat → Prop} {b L i : Nat} {xs : Nat → Int32} {a a2 : Nat → Nat} {o : Nat} {S : XS} {M : MS} {f : Fin 1 → Int64} {H : Heap} {locs : List Loc} {cells slots : Nat} {Q : State → Prop} {ls : Array Slot} (K : LAWK p l s m c b L xs G A) (hi : i + 6 ≤ L) (hL : L ≤ 3072) (hr : Rel S M) (hs : SI G A s H locs (WW G a a2 o S M f)) (hl : lv_has ls 7 (LVs b a a2 o i)) (hc : cells + 1 ≤ 601024) (hsl : slots + 6 ≤ 7293034)
    (hk : ∀ (S' : XS) (M' : MS) (f' : Fin 1 → Int64) (H : Heap) (locs : List Loc) (ls : Array Slot), Rel S' M' → SI G A s H locs (WW G a a2 o S' M' f') → lv_has ls 7 (LVs b a a2 o i) → W p l e room_1 s m #[Value.ref b] below meth c H locs (cells + 1) (slots + 6) Q (F0 m 1513 ls [])) : W p l e room_1 s m #[Value.ref b] below meth c H locs cells slots Q (F0 m 357 ls []) := by
  obtain ⟨hx, hb, hml, hown, hts, hE, hZ, hA, hX, hbl, hbA, hfl⟩ := K
  have hs := sx_perm hs (pw _ _ _)
  refine lv_aload_n hx hb dL_law_357 rfl (lv_at hl 1 rfl) ?_
  refine lv_aload_n hx hb dL_law_358 rfl (lv_at hl 0 rfl) ?_
  refine lv_iload hx hb dL_law_359 (lv_at hl 4 rfl) ?_
  refine lv_iconst (v := (1 : Int32)) hx hb dL_law_361 (by decide) ?_
  refine lv_iadd hx hb dL_law_362 ?_
  refine va_sld hx hb hX hbl hbA hs.2.2 (inK (k := 1) hi (by decide) hL) dL_law_363 ?_
  refine lv_aload_n hx hb dL_law_364 rfl (lv_at hl 0 rfl) ?_
  refine lv_iload hx hb dL_law_365 (lv_at hl 4 rfl) ?_
  refine lv_iconst (v := (2 : Int32)) hx hb dL_law_367 (by decide) ?_
  refine lv_iadd hx hb dL_law_368 ?_
  refine va_sld hx hb hX hbl hbA hs.2.2 (inK (k := 2) hi (by decide) hL) dL_law_369 ?_
  obtain ⟨r, S2, M2, e1, e2, hr2⟩ := (A_shipAsk hr.core (xs (nI i + (1 : Int32)).toNatClampNeg) (xs (nI i + (2 : Int32)).toNatClampNeg)).step hr
  refine sx_V (As := [.int (xs (nI i + (1 : Int32)).toNatClampNeg), .int (xs (nI i + (2 : Int32)).toNatClampNeg)]) (rest := []) (st1 := [.int r]) (c_X4_ship G l a S (xs (nI i + (1 : Int32)).toNatClampNeg) (xs (nI i + (2 : Int32)).toNatClampNeg) (r, S2) e1) vl_42 ⟨(Nat.le_of_ble_eq_true rfl), (Nat.le_of_ble_eq_true rfl)⟩ hx hb hml hown hts hE hA hs ⟨Nat.le_of_succ_le hc, Nat.le_trans (Nat.le_add_right _ 6) hsl⟩ 0 rfl rfl rfl rfl rfl hl.1 (Nat.le_of_ble_eq_true rfl) dL_law_370 (List.Perm.refl _) (ws' := WW G a a2 o S2 M f) (pw _ _ _) (fun H locs hs => ?_)
  refine lv_aload_n hx hb dL_law_373 rfl (lv_at hl 2 rfl) ?_
  refine lv_aload_n hx hb dL_law_374 rfl (lv_at hl 0 rfl) ?_
  refine lv_iload hx hb dL_law_375 (lv_at hl 4 rfl) ?_
  refine lv_iconst (v := (1 : Int32)) hx hb dL_law_377 (by decide) ?_
  refine lv_iadd hx hb dL_law_378 ?_
  refine va_sld hx hb hX hbl hbA hs.2.2 (inK (k := 1) hi (by decide) hL) dL_law_379 ?_
  refine lv_aload_n hx hb dL_law_380 rfl (lv_at hl 0 rfl) ?_
  refine lv_iload hx hb dL_law_381 (lv_at hl 4 rfl) ?_
  refine lv_iconst (v := (2 : Int32)) hx hb dL_law_383 (by decide) ?_
  refine lv_iadd hx hb dL_law_384 ?_
  refine va_sld hx hb hX hbl hbA hs.2.2 (inK (k := 2) hi (by decide) hL) dL_law_385 ?_
  refine sx_V (As := [.int (xs (nI i + (1 : Int32)).toNatClampNeg), .int (xs (nI i + (2 : Int32)).toNatClampNeg)]) (rest := [.int r]) (st1 := [.int r, .int r]) (c_X5_ship G l a2 M (xs (nI i + (1 : Int32)).toNatClampNeg) (xs (nI i + (2 : Int32)).toNatClampNeg) (r, M2) e2) vl_45 ⟨(Nat.le_of_ble_eq_true rfl), (Nat.le_of_ble_eq_true rfl)⟩ hx hb hml hown hts hE hA hs ⟨Nat.le_of_succ_le hc, Nat.le_trans (Nat.le_add_right _ 6) hsl⟩ 0 rfl rfl rfl rfl rfl hl.1 (Nat.le_of_ble_eq_true rfl) dL_law_386 (List.Perm.refl _) (ws' := WW G a a2 o S2 M2 f) (List.Perm.refl _) (fun H locs hs => ?_)
  refine lv_icmp_eq (tgt := 1513) hx hb dL_law_389 (by decide) (fun hc9 => ?_) (fun hc9 => ?_)
  · exact W.widen (Nat.le_add_right _ 1) (Nat.le_add_right _ 6) (hk S2 M2 f H locs ls hr2 hs hl)
  · exact absurd rfl hc9
set_option maxHeartbeats 4000000 in
set_option maxRecDepth 100000 in
theorem k_6 {p : Program} {l : Launch} {e : Env} {s : State} {m : MethodId} {below : List Frame} {meth : Method} {c : Code} {G : GT} {A : Nat → Prop} {b L i : Nat} {xs : Nat → Int32} {a a2 : Nat → Nat} {o : Nat} {S : XS} {M : MS} {f : Fin 1 → Int64} {H : Heap} {locs : List Loc} {cells slots : Nat} {Q : State → Prop} {ls : Array Slot} (K : LAWK p l s m c b L xs G A) (hi : i + 6 ≤ L) (hL : L ≤ 3072) (hr : Rel S M) (hs : SI G A s H locs (WW G a a2 o S M f)) (hl : lv_has ls 7 (LVs b a a2 o i)) (hc : cells + 1 ≤ 601024) (hsl : slots + 6 ≤ 7293034)
    (hk : ∀ (S' : XS) (M' : MS) (f' : Fin 1 → Int64) (H : Heap) (locs : List Loc) (ls : Array Slot), Rel S' M' → SI G A s H locs (WW G a a2 o S' M' f') → lv_has ls 7 (LVs b a a2 o i) → W p l e room_1 s m #[Value.ref b] below meth c H locs (cells + 1) (slots + 6) Q (F0 m 1513 ls [])) : W p l e room_1 s m #[Value.ref b] below meth c H locs cells slots Q (F0 m 394 ls []) := by
  obtain ⟨hx, hb, hml, hown, hts, hE, hZ, hA, hX, hbl, hbA, hfl⟩ := K
  have hs := sx_perm hs (pw _ _ _)
  refine lv_aload_n hx hb dL_law_394 rfl (lv_at hl 1 rfl) ?_
  refine lv_aload_n hx hb dL_law_395 rfl (lv_at hl 0 rfl) ?_
  refine lv_iload hx hb dL_law_396 (lv_at hl 4 rfl) ?_
  refine lv_iconst (v := (1 : Int32)) hx hb dL_law_398 (by decide) ?_
  refine lv_iadd hx hb dL_law_399 ?_
  refine va_sld hx hb hX hbl hbA hs.2.2 (inK (k := 1) hi (by decide) hL) dL_law_400 ?_
  refine lv_aload_n hx hb dL_law_401 rfl (lv_at hl 0 rfl) ?_
  refine lv_iload hx hb dL_law_402 (lv_at hl 4 rfl) ?_
  refine lv_iconst (v := (2 : Int32)) hx hb dL_law_404 (by decide) ?_
  refine lv_iadd hx hb dL_law_405 ?_
  refine va_sld hx hb hX hbl hbA hs.2.2 (inK (k := 2) hi (by decide) hL) dL_law_406 ?_
  obtain ⟨r, S2, M2, e1, e2, hr2⟩ := (A_claimAsk hr.core (xs (nI i + (1 : Int32)).toNatClampNeg) (xs (nI i + (2 : Int32)).toNatClampNeg)).step hr
  refine sx_V (As := [.int (xs (nI i + (1 : Int32)).toNatClampNeg), .int (xs (nI i + (2 : Int32)).toNatClampNeg)]) (rest := []) (st1 := [.int r]) (c_X4_claim G l a S (xs (nI i + (1 : Int32)).toNatClampNeg) (xs (nI i + (2 : Int32)).toNatClampNeg) (r, S2) e1) vl_46 ⟨(Nat.le_of_ble_eq_true rfl), (Nat.le_of_ble_eq_true rfl)⟩ hx hb hml hown hts hE hA hs ⟨Nat.le_of_succ_le hc, Nat.le_trans (Nat.le_add_right _ 6) hsl⟩ 0 rfl rfl rfl rfl rfl hl.1 (Nat.le_of_ble_eq_true rfl) dL_law_407 (List.Perm.refl _) (ws' := WW G a a2 o S2 M f) (pw _ _ _) (fun H locs hs => ?_)
  refine lv_aload_n hx hb dL_law_410 rfl (lv_at hl 2 rfl) ?_
  refine lv_aload_n hx hb dL_law_411 rfl (lv_at hl 0 rfl) ?_
  refine lv_iload hx hb dL_law_412 (lv_at hl 4 rfl) ?_
  refine lv_iconst (v := (1 : Int32)) hx hb dL_law_414 (by decide) ?_
  refine lv_iadd hx hb dL_law_415 ?_
  refine va_sld hx hb hX hbl hbA hs.2.2 (inK (k := 1) hi (by decide) hL) dL_law_416 ?_
  refine lv_aload_n hx hb dL_law_417 rfl (lv_at hl 0 rfl) ?_
  refine lv_iload hx hb dL_law_418 (lv_at hl 4 rfl) ?_
  refine lv_iconst (v := (2 : Int32)) hx hb dL_law_420 (by decide) ?_
  refine lv_iadd hx hb dL_law_421 ?_
  refine va_sld hx hb hX hbl hbA hs.2.2 (inK (k := 2) hi (by decide) hL) dL_law_422 ?_
  refine sx_V (As := [.int (xs (nI i + (1 : Int32)).toNatClampNeg), .int (xs (nI i + (2 : Int32)).toNatClampNeg)]) (rest := [.int r]) (st1 := [.int r, .int r]) (c_X5_claim G l a2 M (xs (nI i + (1 : Int32)).toNatClampNeg) (xs (nI i + (2 : Int32)).toNatClampNeg) (r, M2) e2) vl_49 ⟨(Nat.le_of_ble_eq_true rfl), (Nat.le_of_ble_eq_true rfl)⟩ hx hb hml hown hts hE hA hs ⟨Nat.le_of_succ_le hc, Nat.le_trans (Nat.le_add_right _ 6) hsl⟩ 0 rfl rfl rfl rfl rfl hl.1 (Nat.le_of_ble_eq_true rfl) dL_law_423 (List.Perm.refl _) (ws' := WW G a a2 o S2 M2 f) (List.Perm.refl _) (fun H locs hs => ?_)
  refine lv_icmp_eq (tgt := 1513) hx hb dL_law_426 (by decide) (fun hc9 => ?_) (fun hc9 => ?_)
  · exact W.widen (Nat.le_add_right _ 1) (Nat.le_add_right _ 6) (hk S2 M2 f H locs ls hr2 hs hl)
  · exact absurd rfl hc9
set_option maxHeartbeats 4000000 in
set_option maxRecDepth 100000 in
theorem k_7 {p : Program} {l : Launch} {e : Env} {s : State} {m : MethodId} {below : List Frame} {meth : Method} {c : Code} {G : GT} {A : Nat → Prop} {b L i : Nat} {xs : Nat → Int32} {a a2 : Nat → Nat} {o : Nat} {S : XS} {M : MS} {f : Fin 1 → Int64} {H : Heap} {locs : List Loc} {cells slots : Nat} {Q : State → Prop} {ls : Array Slot} (K : LAWK p l s m c b L xs G A) (hi : i + 6 ≤ L) (hL : L ≤ 3072) (hr : Rel S M) (hs : SI G A s H locs (WW G a a2 o S M f)) (hl : lv_has ls 7 (LVs b a a2 o i)) (hc : cells + 1 ≤ 601024) (hsl : slots + 6 ≤ 7293034)
    (hk : ∀ (S' : XS) (M' : MS) (f' : Fin 1 → Int64) (H : Heap) (locs : List Loc) (ls : Array Slot), Rel S' M' → SI G A s H locs (WW G a a2 o S' M' f') → lv_has ls 7 (LVs b a a2 o i) → W p l e room_1 s m #[Value.ref b] below meth c H locs (cells + 1) (slots + 6) Q (F0 m 1513 ls [])) : W p l e room_1 s m #[Value.ref b] below meth c H locs cells slots Q (F0 m 431 ls []) := by
  obtain ⟨hx, hb, hml, hown, hts, hE, hZ, hA, hX, hbl, hbA, hfl⟩ := K
  have hs := sx_perm hs (pw _ _ _)
  refine lv_aload_n hx hb dL_law_431 rfl (lv_at hl 1 rfl) ?_
  refine lv_aload_n hx hb dL_law_432 rfl (lv_at hl 0 rfl) ?_
  refine lv_iload hx hb dL_law_433 (lv_at hl 4 rfl) ?_
  refine lv_iconst (v := (1 : Int32)) hx hb dL_law_435 (by decide) ?_
  refine lv_iadd hx hb dL_law_436 ?_
  refine va_sld hx hb hX hbl hbA hs.2.2 (inK (k := 1) hi (by decide) hL) dL_law_437 ?_
  refine lv_aload_n hx hb dL_law_438 rfl (lv_at hl 0 rfl) ?_
  refine lv_iload hx hb dL_law_439 (lv_at hl 4 rfl) ?_
  refine lv_iconst (v := (2 : Int32)) hx hb dL_law_441 (by decide) ?_
  refine lv_iadd hx hb dL_law_442 ?_
  refine va_sld hx hb hX hbl hbA hs.2.2 (inK (k := 2) hi (by decide) hL) dL_law_443 ?_
  obtain ⟨r, S2, M2, e1, e2, hr2⟩ := (A_part hr.core (xs (nI i + (1 : Int32)).toNatClampNeg) (xs (nI i + (2 : Int32)).toNatClampNeg)).step hr
  refine sx_V (As := [.int (xs (nI i + (1 : Int32)).toNatClampNeg), .int (xs (nI i + (2 : Int32)).toNatClampNeg)]) (rest := []) (st1 := [.int r]) (c_X4_part G l a S (xs (nI i + (1 : Int32)).toNatClampNeg) (xs (nI i + (2 : Int32)).toNatClampNeg) (r, S2) e1) vl_50 ⟨(Nat.le_of_ble_eq_true rfl), (Nat.le_of_ble_eq_true rfl)⟩ hx hb hml hown hts hE hA hs ⟨Nat.le_of_succ_le hc, Nat.le_trans (Nat.le_add_right _ 6) hsl⟩ 0 rfl rfl rfl rfl rfl hl.1 (Nat.le_of_ble_eq_true rfl) dL_law_444 (List.Perm.refl _) (ws' := WW G a a2 o S2 M f) (pw _ _ _) (fun H locs hs => ?_)
  refine lv_aload_n hx hb dL_law_447 rfl (lv_at hl 2 rfl) ?_
  refine lv_aload_n hx hb dL_law_448 rfl (lv_at hl 0 rfl) ?_
  refine lv_iload hx hb dL_law_449 (lv_at hl 4 rfl) ?_
  refine lv_iconst (v := (1 : Int32)) hx hb dL_law_451 (by decide) ?_
  refine lv_iadd hx hb dL_law_452 ?_
  refine va_sld hx hb hX hbl hbA hs.2.2 (inK (k := 1) hi (by decide) hL) dL_law_453 ?_
  refine lv_aload_n hx hb dL_law_454 rfl (lv_at hl 0 rfl) ?_
  refine lv_iload hx hb dL_law_455 (lv_at hl 4 rfl) ?_
  refine lv_iconst (v := (2 : Int32)) hx hb dL_law_457 (by decide) ?_
  refine lv_iadd hx hb dL_law_458 ?_
  refine va_sld hx hb hX hbl hbA hs.2.2 (inK (k := 2) hi (by decide) hL) dL_law_459 ?_
  refine sx_V (As := [.int (xs (nI i + (1 : Int32)).toNatClampNeg), .int (xs (nI i + (2 : Int32)).toNatClampNeg)]) (rest := [.int r]) (st1 := [.int r, .int r]) (c_X5_part G l a2 M (xs (nI i + (1 : Int32)).toNatClampNeg) (xs (nI i + (2 : Int32)).toNatClampNeg) (r, M2) e2) vl_53 ⟨(Nat.le_of_ble_eq_true rfl), (Nat.le_of_ble_eq_true rfl)⟩ hx hb hml hown hts hE hA hs ⟨Nat.le_of_succ_le hc, Nat.le_trans (Nat.le_add_right _ 6) hsl⟩ 0 rfl rfl rfl rfl rfl hl.1 (Nat.le_of_ble_eq_true rfl) dL_law_460 (List.Perm.refl _) (ws' := WW G a a2 o S2 M2 f) (List.Perm.refl _) (fun H locs hs => ?_)
  refine lv_icmp_eq (tgt := 1513) hx hb dL_law_463 (by decide) (fun hc9 => ?_) (fun hc9 => ?_)
  · exact W.widen (Nat.le_add_right _ 1) (Nat.le_add_right _ 6) (hk S2 M2 f H locs ls hr2 hs hl)
  · exact absurd rfl hc9
set_option maxHeartbeats 4000000 in
set_option maxRecDepth 100000 in
theorem k_8 {p : Program} {l : Launch} {e : Env} {s : State} {m : MethodId} {below : List Frame} {meth : Method} {c : Code} {G : GT} {A : Nat → Prop} {b L i : Nat} {xs : Nat → Int32} {a a2 : Nat → Nat} {o : Nat} {S : XS} {M : MS} {f : Fin 1 → Int64} {H : Heap} {locs : List Loc} {cells slots : Nat} {Q : State → Prop} {ls : Array Slot} (K : LAWK p l s m c b L xs G A) (hi : i + 6 ≤ L) (hL : L ≤ 3072) (hr : Rel S M) (hs : SI G A s H locs (WW G a a2 o S M f)) (hl : lv_has ls 7 (LVs b a a2 o i)) (hc : cells + 1 ≤ 601024) (hsl : slots + 6 ≤ 7293034)
    (hk : ∀ (S' : XS) (M' : MS) (f' : Fin 1 → Int64) (H : Heap) (locs : List Loc) (ls : Array Slot), Rel S' M' → SI G A s H locs (WW G a a2 o S' M' f') → lv_has ls 7 (LVs b a a2 o i) → W p l e room_1 s m #[Value.ref b] below meth c H locs (cells + 1) (slots + 6) Q (F0 m 1513 ls [])) : W p l e room_1 s m #[Value.ref b] below meth c H locs cells slots Q (F0 m 468 ls []) := by
  obtain ⟨hx, hb, hml, hown, hts, hE, hZ, hA, hX, hbl, hbA, hfl⟩ := K
  have hs := sx_perm hs (pw _ _ _)
  refine lv_aload_n hx hb dL_law_468 rfl (lv_at hl 1 rfl) ?_
  refine lv_aload_n hx hb dL_law_469 rfl (lv_at hl 0 rfl) ?_
  refine lv_iload hx hb dL_law_470 (lv_at hl 4 rfl) ?_
  refine lv_iconst (v := (1 : Int32)) hx hb dL_law_472 (by decide) ?_
  refine lv_iadd hx hb dL_law_473 ?_
  refine va_sld hx hb hX hbl hbA hs.2.2 (inK (k := 1) hi (by decide) hL) dL_law_474 ?_
  refine lv_aload_n hx hb dL_law_475 rfl (lv_at hl 0 rfl) ?_
  refine lv_iload hx hb dL_law_476 (lv_at hl 4 rfl) ?_
  refine lv_iconst (v := (2 : Int32)) hx hb dL_law_478 (by decide) ?_
  refine lv_iadd hx hb dL_law_479 ?_
  refine va_sld hx hb hX hbl hbA hs.2.2 (inK (k := 2) hi (by decide) hL) dL_law_480 ?_
  obtain ⟨r, S2, M2, e1, e2, hr2⟩ := (A_owes hr.core (xs (nI i + (1 : Int32)).toNatClampNeg) (xs (nI i + (2 : Int32)).toNatClampNeg)).step hr
  refine sx_V (As := [.int (xs (nI i + (1 : Int32)).toNatClampNeg), .int (xs (nI i + (2 : Int32)).toNatClampNeg)]) (rest := []) (st1 := [.int r]) (c_X4_owes G l a S (xs (nI i + (1 : Int32)).toNatClampNeg) (xs (nI i + (2 : Int32)).toNatClampNeg) (r, S2) e1) vl_54 ⟨(Nat.le_of_ble_eq_true rfl), (Nat.le_of_ble_eq_true rfl)⟩ hx hb hml hown hts hE hA hs ⟨Nat.le_of_succ_le hc, Nat.le_trans (Nat.le_add_right _ 6) hsl⟩ 0 rfl rfl rfl rfl rfl hl.1 (Nat.le_of_ble_eq_true rfl) dL_law_481 (List.Perm.refl _) (ws' := WW G a a2 o S2 M f) (pw _ _ _) (fun H locs hs => ?_)
  refine lv_aload_n hx hb dL_law_484 rfl (lv_at hl 2 rfl) ?_
  refine lv_aload_n hx hb dL_law_485 rfl (lv_at hl 0 rfl) ?_
  refine lv_iload hx hb dL_law_486 (lv_at hl 4 rfl) ?_
  refine lv_iconst (v := (1 : Int32)) hx hb dL_law_488 (by decide) ?_
  refine lv_iadd hx hb dL_law_489 ?_
  refine va_sld hx hb hX hbl hbA hs.2.2 (inK (k := 1) hi (by decide) hL) dL_law_490 ?_
  refine lv_aload_n hx hb dL_law_491 rfl (lv_at hl 0 rfl) ?_
  refine lv_iload hx hb dL_law_492 (lv_at hl 4 rfl) ?_
  refine lv_iconst (v := (2 : Int32)) hx hb dL_law_494 (by decide) ?_
  refine lv_iadd hx hb dL_law_495 ?_
  refine va_sld hx hb hX hbl hbA hs.2.2 (inK (k := 2) hi (by decide) hL) dL_law_496 ?_
  refine sx_V (As := [.int (xs (nI i + (1 : Int32)).toNatClampNeg), .int (xs (nI i + (2 : Int32)).toNatClampNeg)]) (rest := [.int r]) (st1 := [.int r, .int r]) (c_X5_owes G l a2 M (xs (nI i + (1 : Int32)).toNatClampNeg) (xs (nI i + (2 : Int32)).toNatClampNeg) (r, M2) e2) vl_57 ⟨(Nat.le_of_ble_eq_true rfl), (Nat.le_of_ble_eq_true rfl)⟩ hx hb hml hown hts hE hA hs ⟨Nat.le_of_succ_le hc, Nat.le_trans (Nat.le_add_right _ 6) hsl⟩ 0 rfl rfl rfl rfl rfl hl.1 (Nat.le_of_ble_eq_true rfl) dL_law_497 (List.Perm.refl _) (ws' := WW G a a2 o S2 M2 f) (List.Perm.refl _) (fun H locs hs => ?_)
  refine lv_icmp_eq (tgt := 1513) hx hb dL_law_500 (by decide) (fun hc9 => ?_) (fun hc9 => ?_)
  · exact W.widen (Nat.le_add_right _ 1) (Nat.le_add_right _ 6) (hk S2 M2 f H locs ls hr2 hs hl)
  · exact absurd rfl hc9
set_option maxHeartbeats 4000000 in
set_option maxRecDepth 100000 in
theorem k_9 {p : Program} {l : Launch} {e : Env} {s : State} {m : MethodId} {below : List Frame} {meth : Method} {c : Code} {G : GT} {A : Nat → Prop} {b L i : Nat} {xs : Nat → Int32} {a a2 : Nat → Nat} {o : Nat} {S : XS} {M : MS} {f : Fin 1 → Int64} {H : Heap} {locs : List Loc} {cells slots : Nat} {Q : State → Prop} {ls : Array Slot} (K : LAWK p l s m c b L xs G A) (hi : i + 6 ≤ L) (hL : L ≤ 3072) (hr : Rel S M) (hs : SI G A s H locs (WW G a a2 o S M f)) (hl : lv_has ls 7 (LVs b a a2 o i)) (hc : cells + 1 ≤ 601024) (hsl : slots + 6 ≤ 7293034)
    (hk : ∀ (S' : XS) (M' : MS) (f' : Fin 1 → Int64) (H : Heap) (locs : List Loc) (ls : Array Slot), Rel S' M' → SI G A s H locs (WW G a a2 o S' M' f') → lv_has ls 7 (LVs b a a2 o i) → W p l e room_1 s m #[Value.ref b] below meth c H locs (cells + 1) (slots + 6) Q (F0 m 1513 ls [])) : W p l e room_1 s m #[Value.ref b] below meth c H locs cells slots Q (F0 m 505 ls []) := by
  obtain ⟨hx, hb, hml, hown, hts, hE, hZ, hA, hX, hbl, hbA, hfl⟩ := K
  have hs := sx_perm hs (pw _ _ _)
  refine lv_aload_n hx hb dL_law_505 rfl (lv_at hl 1 rfl) ?_
  refine lv_aload_n hx hb dL_law_506 rfl (lv_at hl 0 rfl) ?_
  refine lv_iload hx hb dL_law_507 (lv_at hl 4 rfl) ?_
  refine lv_iconst (v := (1 : Int32)) hx hb dL_law_509 (by decide) ?_
  refine lv_iadd hx hb dL_law_510 ?_
  refine va_sld hx hb hX hbl hbA hs.2.2 (inK (k := 1) hi (by decide) hL) dL_law_511 ?_
  refine lv_aload_n hx hb dL_law_512 rfl (lv_at hl 0 rfl) ?_
  refine lv_iload hx hb dL_law_513 (lv_at hl 4 rfl) ?_
  refine lv_iconst (v := (2 : Int32)) hx hb dL_law_515 (by decide) ?_
  refine lv_iadd hx hb dL_law_516 ?_
  refine va_sld hx hb hX hbl hbA hs.2.2 (inK (k := 2) hi (by decide) hL) dL_law_517 ?_
  refine lv_aload_n hx hb dL_law_518 rfl (lv_at hl 0 rfl) ?_
  refine lv_iload hx hb dL_law_519 (lv_at hl 4 rfl) ?_
  refine lv_iconst (v := (3 : Int32)) hx hb dL_law_521 (by decide) ?_
  refine lv_iadd hx hb dL_law_522 ?_
  refine va_sld hx hb hX hbl hbA hs.2.2 (inK (k := 3) hi (by decide) hL) dL_law_523 ?_
  obtain ⟨r, S2, M2, e1, e2, hr2⟩ := (A_between hr.core (xs (nI i + (1 : Int32)).toNatClampNeg) (xs (nI i + (2 : Int32)).toNatClampNeg) (xs (nI i + (3 : Int32)).toNatClampNeg)).step hr
  refine sx_V (As := [.int (xs (nI i + (1 : Int32)).toNatClampNeg), .int (xs (nI i + (2 : Int32)).toNatClampNeg), .int (xs (nI i + (3 : Int32)).toNatClampNeg)]) (rest := []) (st1 := [.long r]) (c_X4_between G l a S (xs (nI i + (1 : Int32)).toNatClampNeg) (xs (nI i + (2 : Int32)).toNatClampNeg) (xs (nI i + (3 : Int32)).toNatClampNeg) (r, S2) e1) vl_58 ⟨(Nat.le_of_ble_eq_true rfl), (Nat.le_of_ble_eq_true rfl)⟩ hx hb hml hown hts hE hA hs ⟨Nat.le_of_succ_le hc, Nat.le_trans (Nat.le_add_right _ 6) hsl⟩ 0 rfl rfl rfl rfl rfl hl.1 (Nat.le_of_ble_eq_true rfl) dL_law_524 (List.Perm.refl _) (ws' := WW G a a2 o S2 M f) (pw _ _ _) (fun H locs hs => ?_)
  refine lv_aload_n hx hb dL_law_527 rfl (lv_at hl 2 rfl) ?_
  refine lv_aload_n hx hb dL_law_528 rfl (lv_at hl 0 rfl) ?_
  refine lv_iload hx hb dL_law_529 (lv_at hl 4 rfl) ?_
  refine lv_iconst (v := (1 : Int32)) hx hb dL_law_531 (by decide) ?_
  refine lv_iadd hx hb dL_law_532 ?_
  refine va_sld hx hb hX hbl hbA hs.2.2 (inK (k := 1) hi (by decide) hL) dL_law_533 ?_
  refine lv_aload_n hx hb dL_law_534 rfl (lv_at hl 0 rfl) ?_
  refine lv_iload hx hb dL_law_535 (lv_at hl 4 rfl) ?_
  refine lv_iconst (v := (2 : Int32)) hx hb dL_law_537 (by decide) ?_
  refine lv_iadd hx hb dL_law_538 ?_
  refine va_sld hx hb hX hbl hbA hs.2.2 (inK (k := 2) hi (by decide) hL) dL_law_539 ?_
  refine lv_aload_n hx hb dL_law_540 rfl (lv_at hl 0 rfl) ?_
  refine lv_iload hx hb dL_law_541 (lv_at hl 4 rfl) ?_
  refine lv_iconst (v := (3 : Int32)) hx hb dL_law_543 (by decide) ?_
  refine lv_iadd hx hb dL_law_544 ?_
  refine va_sld hx hb hX hbl hbA hs.2.2 (inK (k := 3) hi (by decide) hL) dL_law_545 ?_
  refine sx_V (As := [.int (xs (nI i + (1 : Int32)).toNatClampNeg), .int (xs (nI i + (2 : Int32)).toNatClampNeg), .int (xs (nI i + (3 : Int32)).toNatClampNeg)]) (rest := [.long r]) (st1 := [.long r, .long r]) (c_X5_between G l a2 M (xs (nI i + (1 : Int32)).toNatClampNeg) (xs (nI i + (2 : Int32)).toNatClampNeg) (xs (nI i + (3 : Int32)).toNatClampNeg) (r, M2) e2) vl_62 ⟨(Nat.le_of_ble_eq_true rfl), (Nat.le_of_ble_eq_true rfl)⟩ hx hb hml hown hts hE hA hs ⟨Nat.le_of_succ_le hc, Nat.le_trans (Nat.le_add_right _ 6) hsl⟩ 0 rfl rfl rfl rfl rfl hl.1 (Nat.le_of_ble_eq_true rfl) dL_law_546 (List.Perm.refl _) (ws' := WW G a a2 o S2 M2 f) (List.Perm.refl _) (fun H locs hs => ?_)
  refine W.lcmp hx hb dL_law_549 ?_
  refine lv_if_eq (tgt := 1513) hx hb dL_law_550 (by decide) (fun hc9 => ?_) (fun hc9 => ?_)
  · exact W.widen (Nat.le_add_right _ 1) (Nat.le_add_right _ 6) (hk S2 M2 f H locs ls hr2 hs hl)
  · exact absurd (lgc r) hc9
set_option maxHeartbeats 4000000 in
set_option maxRecDepth 100000 in
theorem k_10 {p : Program} {l : Launch} {e : Env} {s : State} {m : MethodId} {below : List Frame} {meth : Method} {c : Code} {G : GT} {A : Nat → Prop} {b L i : Nat} {xs : Nat → Int32} {a a2 : Nat → Nat} {o : Nat} {S : XS} {M : MS} {f : Fin 1 → Int64} {H : Heap} {locs : List Loc} {cells slots : Nat} {Q : State → Prop} {ls : Array Slot} (K : LAWK p l s m c b L xs G A) (hi : i + 6 ≤ L) (hL : L ≤ 3072) (hr : Rel S M) (hs : SI G A s H locs (WW G a a2 o S M f)) (hl : lv_has ls 7 (LVs b a a2 o i)) (hc : cells + 1 ≤ 601024) (hsl : slots + 6 ≤ 7293034)
    (hk : ∀ (S' : XS) (M' : MS) (f' : Fin 1 → Int64) (H : Heap) (locs : List Loc) (ls : Array Slot), Rel S' M' → SI G A s H locs (WW G a a2 o S' M' f') → lv_has ls 7 (LVs b a a2 o i) → W p l e room_1 s m #[Value.ref b] below meth c H locs (cells + 1) (slots + 6) Q (F0 m 1513 ls [])) : W p l e room_1 s m #[Value.ref b] below meth c H locs cells slots Q (F0 m 555 ls []) := by
  obtain ⟨hx, hb, hml, hown, hts, hE, hZ, hA, hX, hbl, hbA, hfl⟩ := K
  have hs := sx_perm hs (pw _ _ _)
  refine lv_aload_n hx hb dL_law_555 rfl (lv_at hl 1 rfl) ?_
  refine lv_aload_n hx hb dL_law_556 rfl (lv_at hl 0 rfl) ?_
  refine lv_iload hx hb dL_law_557 (lv_at hl 4 rfl) ?_
  refine lv_iconst (v := (1 : Int32)) hx hb dL_law_559 (by decide) ?_
  refine lv_iadd hx hb dL_law_560 ?_
  refine va_sld hx hb hX hbl hbA hs.2.2 (inK (k := 1) hi (by decide) hL) dL_law_561 ?_
  obtain ⟨r, S2, M2, e1, e2, hr2⟩ := (A_back hr.core (xs (nI i + (1 : Int32)).toNatClampNeg)).step hr
  refine sx_V (As := [.int (xs (nI i + (1 : Int32)).toNatClampNeg)]) (rest := []) (st1 := [.long r]) (c_X4_back G l a S (xs (nI i + (1 : Int32)).toNatClampNeg) (r, S2) e1) vl_63 ⟨(Nat.le_of_ble_eq_true rfl), (Nat.le_of_ble_eq_true rfl)⟩ hx hb hml hown hts hE hA hs ⟨Nat.le_of_succ_le hc, Nat.le_trans (Nat.le_add_right _ 6) hsl⟩ 0 rfl rfl rfl rfl rfl hl.1 (Nat.le_of_ble_eq_true rfl) dL_law_562 (List.Perm.refl _) (ws' := WW G a a2 o S2 M f) (pw _ _ _) (fun H locs hs => ?_)
  refine lv_aload_n hx hb dL_law_565 rfl (lv_at hl 2 rfl) ?_
  refine lv_aload_n hx hb dL_law_566 rfl (lv_at hl 0 rfl) ?_
  refine lv_iload hx hb dL_law_567 (lv_at hl 4 rfl) ?_
  refine lv_iconst (v := (1 : Int32)) hx hb dL_law_569 (by decide) ?_
  refine lv_iadd hx hb dL_law_570 ?_
  refine va_sld hx hb hX hbl hbA hs.2.2 (inK (k := 1) hi (by decide) hL) dL_law_571 ?_
  refine sx_V (As := [.int (xs (nI i + (1 : Int32)).toNatClampNeg)]) (rest := [.long r]) (st1 := [.long r, .long r]) (c_X5_back G l a2 M (xs (nI i + (1 : Int32)).toNatClampNeg) (r, M2) e2) vl_67 ⟨(Nat.le_of_ble_eq_true rfl), (Nat.le_of_ble_eq_true rfl)⟩ hx hb hml hown hts hE hA hs ⟨Nat.le_of_succ_le hc, Nat.le_trans (Nat.le_add_right _ 6) hsl⟩ 0 rfl rfl rfl rfl rfl hl.1 (Nat.le_of_ble_eq_true rfl) dL_law_572 (List.Perm.refl _) (ws' := WW G a a2 o S2 M2 f) (List.Perm.refl _) (fun H locs hs => ?_)
  refine W.lcmp hx hb dL_law_575 ?_
  refine lv_if_eq (tgt := 1513) hx hb dL_law_576 (by decide) (fun hc9 => ?_) (fun hc9 => ?_)
  · exact W.widen (Nat.le_add_right _ 1) (Nat.le_add_right _ 6) (hk S2 M2 f H locs ls hr2 hs hl)
  · exact absurd (lgc r) hc9
set_option maxHeartbeats 4000000 in
set_option maxRecDepth 100000 in
theorem k_11 {p : Program} {l : Launch} {e : Env} {s : State} {m : MethodId} {below : List Frame} {meth : Method} {c : Code} {G : GT} {A : Nat → Prop} {b L i : Nat} {xs : Nat → Int32} {a a2 : Nat → Nat} {o : Nat} {S : XS} {M : MS} {f : Fin 1 → Int64} {H : Heap} {locs : List Loc} {cells slots : Nat} {Q : State → Prop} {ls : Array Slot} (K : LAWK p l s m c b L xs G A) (hi : i + 6 ≤ L) (hL : L ≤ 3072) (hr : Rel S M) (hs : SI G A s H locs (WW G a a2 o S M f)) (hl : lv_has ls 7 (LVs b a a2 o i)) (hc : cells + 1 ≤ 601024) (hsl : slots + 6 ≤ 7293034)
    (hk : ∀ (S' : XS) (M' : MS) (f' : Fin 1 → Int64) (H : Heap) (locs : List Loc) (ls : Array Slot), Rel S' M' → SI G A s H locs (WW G a a2 o S' M' f') → lv_has ls 7 (LVs b a a2 o i) → W p l e room_1 s m #[Value.ref b] below meth c H locs (cells + 1) (slots + 6) Q (F0 m 1513 ls [])) : W p l e room_1 s m #[Value.ref b] below meth c H locs cells slots Q (F0 m 581 ls []) := by
  obtain ⟨hx, hb, hml, hown, hts, hE, hZ, hA, hX, hbl, hbA, hfl⟩ := K
  have hs := sx_perm hs (pw _ _ _)
  refine lv_aload_n hx hb dL_law_581 rfl (lv_at hl 1 rfl) ?_
  refine lv_aload_n hx hb dL_law_582 rfl (lv_at hl 0 rfl) ?_
  refine lv_iload hx hb dL_law_583 (lv_at hl 4 rfl) ?_
  refine lv_iconst (v := (1 : Int32)) hx hb dL_law_585 (by decide) ?_
  refine lv_iadd hx hb dL_law_586 ?_
  refine va_sld hx hb hX hbl hbA hs.2.2 (inK (k := 1) hi (by decide) hL) dL_law_587 ?_
  refine lv_aload_n hx hb dL_law_588 rfl (lv_at hl 0 rfl) ?_
  refine lv_iload hx hb dL_law_589 (lv_at hl 4 rfl) ?_
  refine lv_iconst (v := (2 : Int32)) hx hb dL_law_591 (by decide) ?_
  refine lv_iadd hx hb dL_law_592 ?_
  refine va_sld hx hb hX hbl hbA hs.2.2 (inK (k := 2) hi (by decide) hL) dL_law_593 ?_
  obtain ⟨r, S2, M2, e1, e2, hr2⟩ := (A_fund hr.core (xs (nI i + (1 : Int32)).toNatClampNeg) (xs (nI i + (2 : Int32)).toNatClampNeg)).step hr
  refine sx_V (As := [.int (xs (nI i + (1 : Int32)).toNatClampNeg), .int (xs (nI i + (2 : Int32)).toNatClampNeg)]) (rest := []) (st1 := [.int r]) (c_X4_fund G l a S (xs (nI i + (1 : Int32)).toNatClampNeg) (xs (nI i + (2 : Int32)).toNatClampNeg) (r, S2) e1) vl_68 ⟨(Nat.le_of_ble_eq_true rfl), (Nat.le_of_ble_eq_true rfl)⟩ hx hb hml hown hts hE hA hs ⟨Nat.le_of_succ_le hc, Nat.le_trans (Nat.le_add_right _ 6) hsl⟩ 0 rfl rfl rfl rfl rfl hl.1 (Nat.le_of_ble_eq_true rfl) dL_law_594 (List.Perm.refl _) (ws' := WW G a a2 o S2 M f) (pw _ _ _) (fun H locs hs => ?_)
  refine lv_aload_n hx hb dL_law_597 rfl (lv_at hl 2 rfl) ?_
  refine lv_aload_n hx hb dL_law_598 rfl (lv_at hl 0 rfl) ?_
  refine lv_iload hx hb dL_law_599 (lv_at hl 4 rfl) ?_
  refine lv_iconst (v := (1 : Int32)) hx hb dL_law_601 (by decide) ?_
  refine lv_iadd hx hb dL_law_602 ?_
  refine va_sld hx hb hX hbl hbA hs.2.2 (inK (k := 1) hi (by decide) hL) dL_law_603 ?_
  refine lv_aload_n hx hb dL_law_604 rfl (lv_at hl 0 rfl) ?_
  refine lv_iload hx hb dL_law_605 (lv_at hl 4 rfl) ?_
  refine lv_iconst (v := (2 : Int32)) hx hb dL_law_607 (by decide) ?_
  refine lv_iadd hx hb dL_law_608 ?_
  refine va_sld hx hb hX hbl hbA hs.2.2 (inK (k := 2) hi (by decide) hL) dL_law_609 ?_
  refine sx_V (As := [.int (xs (nI i + (1 : Int32)).toNatClampNeg), .int (xs (nI i + (2 : Int32)).toNatClampNeg)]) (rest := [.int r]) (st1 := [.int r, .int r]) (c_X5_fund G l a2 M (xs (nI i + (1 : Int32)).toNatClampNeg) (xs (nI i + (2 : Int32)).toNatClampNeg) (r, M2) e2) vl_71 ⟨(Nat.le_of_ble_eq_true rfl), (Nat.le_of_ble_eq_true rfl)⟩ hx hb hml hown hts hE hA hs ⟨Nat.le_of_succ_le hc, Nat.le_trans (Nat.le_add_right _ 6) hsl⟩ 0 rfl rfl rfl rfl rfl hl.1 (Nat.le_of_ble_eq_true rfl) dL_law_610 (List.Perm.refl _) (ws' := WW G a a2 o S2 M2 f) (List.Perm.refl _) (fun H locs hs => ?_)
  refine lv_icmp_eq (tgt := 1513) hx hb dL_law_613 (by decide) (fun hc9 => ?_) (fun hc9 => ?_)
  · exact W.widen (Nat.le_add_right _ 1) (Nat.le_add_right _ 6) (hk S2 M2 f H locs ls hr2 hs hl)
  · exact absurd rfl hc9
set_option maxHeartbeats 4000000 in
set_option maxRecDepth 100000 in
theorem k_12 {p : Program} {l : Launch} {e : Env} {s : State} {m : MethodId} {below : List Frame} {meth : Method} {c : Code} {G : GT} {A : Nat → Prop} {b L i : Nat} {xs : Nat → Int32} {a a2 : Nat → Nat} {o : Nat} {S : XS} {M : MS} {f : Fin 1 → Int64} {H : Heap} {locs : List Loc} {cells slots : Nat} {Q : State → Prop} {ls : Array Slot} (K : LAWK p l s m c b L xs G A) (hi : i + 6 ≤ L) (hL : L ≤ 3072) (hr : Rel S M) (hs : SI G A s H locs (WW G a a2 o S M f)) (hl : lv_has ls 7 (LVs b a a2 o i)) (hc : cells + 1 ≤ 601024) (hsl : slots + 6 ≤ 7293034)
    (hk : ∀ (S' : XS) (M' : MS) (f' : Fin 1 → Int64) (H : Heap) (locs : List Loc) (ls : Array Slot), Rel S' M' → SI G A s H locs (WW G a a2 o S' M' f') → lv_has ls 7 (LVs b a a2 o i) → W p l e room_1 s m #[Value.ref b] below meth c H locs (cells + 1) (slots + 6) Q (F0 m 1513 ls [])) : W p l e room_1 s m #[Value.ref b] below meth c H locs cells slots Q (F0 m 618 ls []) := by
  obtain ⟨hx, hb, hml, hown, hts, hE, hZ, hA, hX, hbl, hbA, hfl⟩ := K
  have hs := sx_perm hs (pw _ _ _)
  refine lv_aload_n hx hb dL_law_618 rfl (lv_at hl 1 rfl) ?_
  refine lv_aload_n hx hb dL_law_619 rfl (lv_at hl 0 rfl) ?_
  refine lv_iload hx hb dL_law_620 (lv_at hl 4 rfl) ?_
  refine lv_iconst (v := (1 : Int32)) hx hb dL_law_622 (by decide) ?_
  refine lv_iadd hx hb dL_law_623 ?_
  refine va_sld hx hb hX hbl hbA hs.2.2 (inK (k := 1) hi (by decide) hL) dL_law_624 ?_
  refine lv_aload_n hx hb dL_law_625 rfl (lv_at hl 0 rfl) ?_
  refine lv_iload hx hb dL_law_626 (lv_at hl 4 rfl) ?_
  refine lv_iconst (v := (2 : Int32)) hx hb dL_law_628 (by decide) ?_
  refine lv_iadd hx hb dL_law_629 ?_
  refine va_sld hx hb hX hbl hbA hs.2.2 (inK (k := 2) hi (by decide) hL) dL_law_630 ?_
  obtain ⟨r, S2, M2, e1, e2, hr2⟩ := (A_pays hr.core (xs (nI i + (1 : Int32)).toNatClampNeg) (xs (nI i + (2 : Int32)).toNatClampNeg)).step hr
  refine sx_V (As := [.int (xs (nI i + (1 : Int32)).toNatClampNeg), .int (xs (nI i + (2 : Int32)).toNatClampNeg)]) (rest := []) (st1 := [.int r]) (c_X4_pays G l a S (xs (nI i + (1 : Int32)).toNatClampNeg) (xs (nI i + (2 : Int32)).toNatClampNeg) (r, S2) e1) vl_72 ⟨(Nat.le_of_ble_eq_true rfl), (Nat.le_of_ble_eq_true rfl)⟩ hx hb hml hown hts hE hA hs ⟨Nat.le_of_succ_le hc, Nat.le_trans (Nat.le_add_right _ 6) hsl⟩ 0 rfl rfl rfl rfl rfl hl.1 (Nat.le_of_ble_eq_true rfl) dL_law_631 (List.Perm.refl _) (ws' := WW G a a2 o S2 M f) (pw _ _ _) (fun H locs hs => ?_)
  refine lv_aload_n hx hb dL_law_634 rfl (lv_at hl 2 rfl) ?_
  refine lv_aload_n hx hb dL_law_635 rfl (lv_at hl 0 rfl) ?_
  refine lv_iload hx hb dL_law_636 (lv_at hl 4 rfl) ?_
  refine lv_iconst (v := (1 : Int32)) hx hb dL_law_638 (by decide) ?_
  refine lv_iadd hx hb dL_law_639 ?_
  refine va_sld hx hb hX hbl hbA hs.2.2 (inK (k := 1) hi (by decide) hL) dL_law_640 ?_
  refine lv_aload_n hx hb dL_law_641 rfl (lv_at hl 0 rfl) ?_
  refine lv_iload hx hb dL_law_642 (lv_at hl 4 rfl) ?_
  refine lv_iconst (v := (2 : Int32)) hx hb dL_law_644 (by decide) ?_
  refine lv_iadd hx hb dL_law_645 ?_
  refine va_sld hx hb hX hbl hbA hs.2.2 (inK (k := 2) hi (by decide) hL) dL_law_646 ?_
  refine sx_V (As := [.int (xs (nI i + (1 : Int32)).toNatClampNeg), .int (xs (nI i + (2 : Int32)).toNatClampNeg)]) (rest := [.int r]) (st1 := [.int r, .int r]) (c_X5_pays G l a2 M (xs (nI i + (1 : Int32)).toNatClampNeg) (xs (nI i + (2 : Int32)).toNatClampNeg) (r, M2) e2) vl_75 ⟨(Nat.le_of_ble_eq_true rfl), (Nat.le_of_ble_eq_true rfl)⟩ hx hb hml hown hts hE hA hs ⟨Nat.le_of_succ_le hc, Nat.le_trans (Nat.le_add_right _ 6) hsl⟩ 0 rfl rfl rfl rfl rfl hl.1 (Nat.le_of_ble_eq_true rfl) dL_law_647 (List.Perm.refl _) (ws' := WW G a a2 o S2 M2 f) (List.Perm.refl _) (fun H locs hs => ?_)
  refine lv_icmp_eq (tgt := 1513) hx hb dL_law_650 (by decide) (fun hc9 => ?_) (fun hc9 => ?_)
  · exact W.widen (Nat.le_add_right _ 1) (Nat.le_add_right _ 6) (hk S2 M2 f H locs ls hr2 hs hl)
  · exact absurd rfl hc9
set_option maxHeartbeats 4000000 in
set_option maxRecDepth 100000 in
theorem k_13 {p : Program} {l : Launch} {e : Env} {s : State} {m : MethodId} {below : List Frame} {meth : Method} {c : Code} {G : GT} {A : Nat → Prop} {b L i : Nat} {xs : Nat → Int32} {a a2 : Nat → Nat} {o : Nat} {S : XS} {M : MS} {f : Fin 1 → Int64} {H : Heap} {locs : List Loc} {cells slots : Nat} {Q : State → Prop} {ls : Array Slot} (K : LAWK p l s m c b L xs G A) (hi : i + 6 ≤ L) (hL : L ≤ 3072) (hr : Rel S M) (hs : SI G A s H locs (WW G a a2 o S M f)) (hl : lv_has ls 7 (LVs b a a2 o i)) (hc : cells + 1 ≤ 601024) (hsl : slots + 6 ≤ 7293034)
    (hk : ∀ (S' : XS) (M' : MS) (f' : Fin 1 → Int64) (H : Heap) (locs : List Loc) (ls : Array Slot), Rel S' M' → SI G A s H locs (WW G a a2 o S' M' f') → lv_has ls 7 (LVs b a a2 o i) → W p l e room_1 s m #[Value.ref b] below meth c H locs (cells + 1) (slots + 6) Q (F0 m 1513 ls [])) : W p l e room_1 s m #[Value.ref b] below meth c H locs cells slots Q (F0 m 655 ls []) := by
  obtain ⟨hx, hb, hml, hown, hts, hE, hZ, hA, hX, hbl, hbA, hfl⟩ := K
  have hs := sx_perm hs (pw _ _ _)
  refine lv_aload_n hx hb dL_law_655 rfl (lv_at hl 1 rfl) ?_
  refine lv_aload_n hx hb dL_law_656 rfl (lv_at hl 0 rfl) ?_
  refine lv_iload hx hb dL_law_657 (lv_at hl 4 rfl) ?_
  refine lv_iconst (v := (1 : Int32)) hx hb dL_law_659 (by decide) ?_
  refine lv_iadd hx hb dL_law_660 ?_
  refine va_sld hx hb hX hbl hbA hs.2.2 (inK (k := 1) hi (by decide) hL) dL_law_661 ?_
  refine lv_aload_n hx hb dL_law_662 rfl (lv_at hl 0 rfl) ?_
  refine lv_iload hx hb dL_law_663 (lv_at hl 4 rfl) ?_
  refine lv_iconst (v := (2 : Int32)) hx hb dL_law_665 (by decide) ?_
  refine lv_iadd hx hb dL_law_666 ?_
  refine va_sld hx hb hX hbl hbA hs.2.2 (inK (k := 2) hi (by decide) hL) dL_law_667 ?_
  obtain ⟨r, S2, M2, e1, e2, hr2⟩ := (A_paysTo hr.core (xs (nI i + (1 : Int32)).toNatClampNeg) (xs (nI i + (2 : Int32)).toNatClampNeg)).step hr
  refine sx_V (As := [.int (xs (nI i + (1 : Int32)).toNatClampNeg), .int (xs (nI i + (2 : Int32)).toNatClampNeg)]) (rest := []) (st1 := [.long r]) (c_X4_paysTo G l a S (xs (nI i + (1 : Int32)).toNatClampNeg) (xs (nI i + (2 : Int32)).toNatClampNeg) (r, S2) e1) vl_76 ⟨(Nat.le_of_ble_eq_true rfl), (Nat.le_of_ble_eq_true rfl)⟩ hx hb hml hown hts hE hA hs ⟨Nat.le_of_succ_le hc, Nat.le_trans (Nat.le_add_right _ 6) hsl⟩ 0 rfl rfl rfl rfl rfl hl.1 (Nat.le_of_ble_eq_true rfl) dL_law_668 (List.Perm.refl _) (ws' := WW G a a2 o S2 M f) (pw _ _ _) (fun H locs hs => ?_)
  refine lv_aload_n hx hb dL_law_671 rfl (lv_at hl 2 rfl) ?_
  refine lv_aload_n hx hb dL_law_672 rfl (lv_at hl 0 rfl) ?_
  refine lv_iload hx hb dL_law_673 (lv_at hl 4 rfl) ?_
  refine lv_iconst (v := (1 : Int32)) hx hb dL_law_675 (by decide) ?_
  refine lv_iadd hx hb dL_law_676 ?_
  refine va_sld hx hb hX hbl hbA hs.2.2 (inK (k := 1) hi (by decide) hL) dL_law_677 ?_
  refine lv_aload_n hx hb dL_law_678 rfl (lv_at hl 0 rfl) ?_
  refine lv_iload hx hb dL_law_679 (lv_at hl 4 rfl) ?_
  refine lv_iconst (v := (2 : Int32)) hx hb dL_law_681 (by decide) ?_
  refine lv_iadd hx hb dL_law_682 ?_
  refine va_sld hx hb hX hbl hbA hs.2.2 (inK (k := 2) hi (by decide) hL) dL_law_683 ?_
  refine sx_V (As := [.int (xs (nI i + (1 : Int32)).toNatClampNeg), .int (xs (nI i + (2 : Int32)).toNatClampNeg)]) (rest := [.long r]) (st1 := [.long r, .long r]) (c_X5_paysTo G l a2 M (xs (nI i + (1 : Int32)).toNatClampNeg) (xs (nI i + (2 : Int32)).toNatClampNeg) (r, M2) e2) vl_80 ⟨(Nat.le_of_ble_eq_true rfl), (Nat.le_of_ble_eq_true rfl)⟩ hx hb hml hown hts hE hA hs ⟨Nat.le_of_succ_le hc, Nat.le_trans (Nat.le_add_right _ 6) hsl⟩ 0 rfl rfl rfl rfl rfl hl.1 (Nat.le_of_ble_eq_true rfl) dL_law_684 (List.Perm.refl _) (ws' := WW G a a2 o S2 M2 f) (List.Perm.refl _) (fun H locs hs => ?_)
  refine W.lcmp hx hb dL_law_687 ?_
  refine lv_if_eq (tgt := 1513) hx hb dL_law_688 (by decide) (fun hc9 => ?_) (fun hc9 => ?_)
  · exact W.widen (Nat.le_add_right _ 1) (Nat.le_add_right _ 6) (hk S2 M2 f H locs ls hr2 hs hl)
  · exact absurd (lgc r) hc9
set_option maxHeartbeats 4000000 in
set_option maxRecDepth 100000 in
theorem k_14 {p : Program} {l : Launch} {e : Env} {s : State} {m : MethodId} {below : List Frame} {meth : Method} {c : Code} {G : GT} {A : Nat → Prop} {b L i : Nat} {xs : Nat → Int32} {a a2 : Nat → Nat} {o : Nat} {S : XS} {M : MS} {f : Fin 1 → Int64} {H : Heap} {locs : List Loc} {cells slots : Nat} {Q : State → Prop} {ls : Array Slot} (K : LAWK p l s m c b L xs G A) (hi : i + 6 ≤ L) (hL : L ≤ 3072) (hr : Rel S M) (hs : SI G A s H locs (WW G a a2 o S M f)) (hl : lv_has ls 7 (LVs b a a2 o i)) (hc : cells + 1 ≤ 601024) (hsl : slots + 6 ≤ 7293034)
    (hk : ∀ (S' : XS) (M' : MS) (f' : Fin 1 → Int64) (H : Heap) (locs : List Loc) (ls : Array Slot), Rel S' M' → SI G A s H locs (WW G a a2 o S' M' f') → lv_has ls 7 (LVs b a a2 o i) → W p l e room_1 s m #[Value.ref b] below meth c H locs (cells + 1) (slots + 6) Q (F0 m 1513 ls [])) : W p l e room_1 s m #[Value.ref b] below meth c H locs cells slots Q (F0 m 693 ls []) := by
  obtain ⟨hx, hb, hml, hown, hts, hE, hZ, hA, hX, hbl, hbA, hfl⟩ := K
  have hs := sx_perm hs (pw _ _ _)
  refine lv_aload_n hx hb dL_law_693 rfl (lv_at hl 1 rfl) ?_
  refine lv_aload_n hx hb dL_law_694 rfl (lv_at hl 0 rfl) ?_
  refine lv_iload hx hb dL_law_695 (lv_at hl 4 rfl) ?_
  refine lv_iconst (v := (1 : Int32)) hx hb dL_law_697 (by decide) ?_
  refine lv_iadd hx hb dL_law_698 ?_
  refine va_sld hx hb hX hbl hbA hs.2.2 (inK (k := 1) hi (by decide) hL) dL_law_699 ?_
  refine lv_aload_n hx hb dL_law_700 rfl (lv_at hl 0 rfl) ?_
  refine lv_iload hx hb dL_law_701 (lv_at hl 4 rfl) ?_
  refine lv_iconst (v := (2 : Int32)) hx hb dL_law_703 (by decide) ?_
  refine lv_iadd hx hb dL_law_704 ?_
  refine va_sld hx hb hX hbl hbA hs.2.2 (inK (k := 2) hi (by decide) hL) dL_law_705 ?_
  obtain ⟨r, S2, M2, e1, e2, hr2⟩ := (A_sum hr.core (xs (nI i + (1 : Int32)).toNatClampNeg) (xs (nI i + (2 : Int32)).toNatClampNeg)).step hr
  refine sx_V (As := [.int (xs (nI i + (1 : Int32)).toNatClampNeg), .int (xs (nI i + (2 : Int32)).toNatClampNeg)]) (rest := []) (st1 := [.long r]) (c_X4_sum G l a S (xs (nI i + (1 : Int32)).toNatClampNeg) (xs (nI i + (2 : Int32)).toNatClampNeg) (r, S2) e1) vl_81 ⟨(Nat.le_of_ble_eq_true rfl), (Nat.le_of_ble_eq_true rfl)⟩ hx hb hml hown hts hE hA hs ⟨Nat.le_of_succ_le hc, Nat.le_trans (Nat.le_add_right _ 6) hsl⟩ 0 rfl rfl rfl rfl rfl hl.1 (Nat.le_of_ble_eq_true rfl) dL_law_706 (List.Perm.refl _) (ws' := WW G a a2 o S2 M f) (pw _ _ _) (fun H locs hs => ?_)
  refine lv_aload_n hx hb dL_law_709 rfl (lv_at hl 2 rfl) ?_
  refine lv_aload_n hx hb dL_law_710 rfl (lv_at hl 0 rfl) ?_
  refine lv_iload hx hb dL_law_711 (lv_at hl 4 rfl) ?_
  refine lv_iconst (v := (1 : Int32)) hx hb dL_law_713 (by decide) ?_
  refine lv_iadd hx hb dL_law_714 ?_
  refine va_sld hx hb hX hbl hbA hs.2.2 (inK (k := 1) hi (by decide) hL) dL_law_715 ?_
  refine lv_aload_n hx hb dL_law_716 rfl (lv_at hl 0 rfl) ?_
  refine lv_iload hx hb dL_law_717 (lv_at hl 4 rfl) ?_
  refine lv_iconst (v := (2 : Int32)) hx hb dL_law_719 (by decide) ?_
  refine lv_iadd hx hb dL_law_720 ?_
  refine va_sld hx hb hX hbl hbA hs.2.2 (inK (k := 2) hi (by decide) hL) dL_law_721 ?_
  refine sx_V (As := [.int (xs (nI i + (1 : Int32)).toNatClampNeg), .int (xs (nI i + (2 : Int32)).toNatClampNeg)]) (rest := [.long r]) (st1 := [.long r, .long r]) (c_X5_sum G l a2 M (xs (nI i + (1 : Int32)).toNatClampNeg) (xs (nI i + (2 : Int32)).toNatClampNeg) (r, M2) e2) vl_84 ⟨(Nat.le_of_ble_eq_true rfl), (Nat.le_of_ble_eq_true rfl)⟩ hx hb hml hown hts hE hA hs ⟨Nat.le_of_succ_le hc, Nat.le_trans (Nat.le_add_right _ 6) hsl⟩ 0 rfl rfl rfl rfl rfl hl.1 (Nat.le_of_ble_eq_true rfl) dL_law_722 (List.Perm.refl _) (ws' := WW G a a2 o S2 M2 f) (List.Perm.refl _) (fun H locs hs => ?_)
  refine W.lcmp hx hb dL_law_725 ?_
  refine lv_if_eq (tgt := 1513) hx hb dL_law_726 (by decide) (fun hc9 => ?_) (fun hc9 => ?_)
  · exact W.widen (Nat.le_add_right _ 1) (Nat.le_add_right _ 6) (hk S2 M2 f H locs ls hr2 hs hl)
  · exact absurd (lgc r) hc9
set_option maxHeartbeats 4000000 in
set_option maxRecDepth 100000 in
theorem k_15 {p : Program} {l : Launch} {e : Env} {s : State} {m : MethodId} {below : List Frame} {meth : Method} {c : Code} {G : GT} {A : Nat → Prop} {b L i : Nat} {xs : Nat → Int32} {a a2 : Nat → Nat} {o : Nat} {S : XS} {M : MS} {f : Fin 1 → Int64} {H : Heap} {locs : List Loc} {cells slots : Nat} {Q : State → Prop} {ls : Array Slot} (K : LAWK p l s m c b L xs G A) (hi : i + 6 ≤ L) (hL : L ≤ 3072) (hr : Rel S M) (hs : SI G A s H locs (WW G a a2 o S M f)) (hl : lv_has ls 7 (LVs b a a2 o i)) (hc : cells + 1 ≤ 601024) (hsl : slots + 6 ≤ 7293034)
    (hk : ∀ (S' : XS) (M' : MS) (f' : Fin 1 → Int64) (H : Heap) (locs : List Loc) (ls : Array Slot), Rel S' M' → SI G A s H locs (WW G a a2 o S' M' f') → lv_has ls 7 (LVs b a a2 o i) → W p l e room_1 s m #[Value.ref b] below meth c H locs (cells + 1) (slots + 6) Q (F0 m 1513 ls [])) : W p l e room_1 s m #[Value.ref b] below meth c H locs cells slots Q (F0 m 731 ls []) := by
  obtain ⟨hx, hb, hml, hown, hts, hE, hZ, hA, hX, hbl, hbA, hfl⟩ := K
  have hs := sx_perm hs (pw _ _ _)
  refine lv_aload_n hx hb dL_law_731 rfl (lv_at hl 1 rfl) ?_
  refine lv_aload_n hx hb dL_law_732 rfl (lv_at hl 0 rfl) ?_
  refine lv_iload hx hb dL_law_733 (lv_at hl 4 rfl) ?_
  refine lv_iconst (v := (1 : Int32)) hx hb dL_law_735 (by decide) ?_
  refine lv_iadd hx hb dL_law_736 ?_
  refine va_sld hx hb hX hbl hbA hs.2.2 (inK (k := 1) hi (by decide) hL) dL_law_737 ?_
  obtain ⟨r, S2, M2, e1, e2, hr2⟩ := (A_bites hr.core (xs (nI i + (1 : Int32)).toNatClampNeg)).step hr
  refine sx_V (As := [.int (xs (nI i + (1 : Int32)).toNatClampNeg)]) (rest := []) (st1 := [.int r]) (c_X4_bites G l a S (xs (nI i + (1 : Int32)).toNatClampNeg) (r, S2) e1) vl_85 ⟨(Nat.le_of_ble_eq_true rfl), (Nat.le_of_ble_eq_true rfl)⟩ hx hb hml hown hts hE hA hs ⟨Nat.le_of_succ_le hc, Nat.le_trans (Nat.le_add_right _ 6) hsl⟩ 0 rfl rfl rfl rfl rfl hl.1 (Nat.le_of_ble_eq_true rfl) dL_law_738 (List.Perm.refl _) (ws' := WW G a a2 o S2 M f) (pw _ _ _) (fun H locs hs => ?_)
  refine lv_aload_n hx hb dL_law_741 rfl (lv_at hl 2 rfl) ?_
  refine lv_aload_n hx hb dL_law_742 rfl (lv_at hl 0 rfl) ?_
  refine lv_iload hx hb dL_law_743 (lv_at hl 4 rfl) ?_
  refine lv_iconst (v := (1 : Int32)) hx hb dL_law_745 (by decide) ?_
  refine lv_iadd hx hb dL_law_746 ?_
  refine va_sld hx hb hX hbl hbA hs.2.2 (inK (k := 1) hi (by decide) hL) dL_law_747 ?_
  refine sx_V (As := [.int (xs (nI i + (1 : Int32)).toNatClampNeg)]) (rest := [.int r]) (st1 := [.int r, .int r]) (c_X5_bites G l a2 M (xs (nI i + (1 : Int32)).toNatClampNeg) (r, M2) e2) vl_88 ⟨(Nat.le_of_ble_eq_true rfl), (Nat.le_of_ble_eq_true rfl)⟩ hx hb hml hown hts hE hA hs ⟨Nat.le_of_succ_le hc, Nat.le_trans (Nat.le_add_right _ 6) hsl⟩ 0 rfl rfl rfl rfl rfl hl.1 (Nat.le_of_ble_eq_true rfl) dL_law_748 (List.Perm.refl _) (ws' := WW G a a2 o S2 M2 f) (List.Perm.refl _) (fun H locs hs => ?_)
  refine lv_icmp_eq (tgt := 1513) hx hb dL_law_751 (by decide) (fun hc9 => ?_) (fun hc9 => ?_)
  · exact W.widen (Nat.le_add_right _ 1) (Nat.le_add_right _ 6) (hk S2 M2 f H locs ls hr2 hs hl)
  · exact absurd rfl hc9
set_option maxHeartbeats 4000000 in
set_option maxRecDepth 100000 in
theorem k_16 {p : Program} {l : Launch} {e : Env} {s : State} {m : MethodId} {below : List Frame} {meth : Method} {c : Code} {G : GT} {A : Nat → Prop} {b L i : Nat} {xs : Nat → Int32} {a a2 : Nat → Nat} {o : Nat} {S : XS} {M : MS} {f : Fin 1 → Int64} {H : Heap} {locs : List Loc} {cells slots : Nat} {Q : State → Prop} {ls : Array Slot} (K : LAWK p l s m c b L xs G A) (hi : i + 6 ≤ L) (hL : L ≤ 3072) (hr : Rel S M) (hs : SI G A s H locs (WW G a a2 o S M f)) (hl : lv_has ls 7 (LVs b a a2 o i)) (hc : cells + 1 ≤ 601024) (hsl : slots + 6 ≤ 7293034)
    (hk : ∀ (S' : XS) (M' : MS) (f' : Fin 1 → Int64) (H : Heap) (locs : List Loc) (ls : Array Slot), Rel S' M' → SI G A s H locs (WW G a a2 o S' M' f') → lv_has ls 7 (LVs b a a2 o i) → W p l e room_1 s m #[Value.ref b] below meth c H locs (cells + 1) (slots + 6) Q (F0 m 1513 ls [])) : W p l e room_1 s m #[Value.ref b] below meth c H locs cells slots Q (F0 m 756 ls []) := by
  obtain ⟨hx, hb, hml, hown, hts, hE, hZ, hA, hX, hbl, hbA, hfl⟩ := K
  have hs := sx_perm hs (pw _ _ _)
  refine lv_aload_n hx hb dL_law_756 rfl (lv_at hl 1 rfl) ?_
  refine lv_aload_n hx hb dL_law_757 rfl (lv_at hl 0 rfl) ?_
  refine lv_iload hx hb dL_law_758 (lv_at hl 4 rfl) ?_
  refine lv_iconst (v := (1 : Int32)) hx hb dL_law_760 (by decide) ?_
  refine lv_iadd hx hb dL_law_761 ?_
  refine va_sld hx hb hX hbl hbA hs.2.2 (inK (k := 1) hi (by decide) hL) dL_law_762 ?_
  refine lv_aload_n hx hb dL_law_763 rfl (lv_at hl 0 rfl) ?_
  refine lv_iload hx hb dL_law_764 (lv_at hl 4 rfl) ?_
  refine lv_iconst (v := (2 : Int32)) hx hb dL_law_766 (by decide) ?_
  refine lv_iadd hx hb dL_law_767 ?_
  refine va_sld hx hb hX hbl hbA hs.2.2 (inK (k := 2) hi (by decide) hL) dL_law_768 ?_
  obtain ⟨r, S2, M2, e1, e2, hr2⟩ := (A_gets hr.core (xs (nI i + (1 : Int32)).toNatClampNeg) (xs (nI i + (2 : Int32)).toNatClampNeg)).step hr
  refine sx_V (As := [.int (xs (nI i + (1 : Int32)).toNatClampNeg), .int (xs (nI i + (2 : Int32)).toNatClampNeg)]) (rest := []) (st1 := [.long r]) (c_X4_gets G l a S (xs (nI i + (1 : Int32)).toNatClampNeg) (xs (nI i + (2 : Int32)).toNatClampNeg) (r, S2) e1) vl_89 ⟨(Nat.le_of_ble_eq_true rfl), (Nat.le_of_ble_eq_true rfl)⟩ hx hb hml hown hts hE hA hs ⟨Nat.le_of_succ_le hc, Nat.le_trans (Nat.le_add_right _ 6) hsl⟩ 0 rfl rfl rfl rfl rfl hl.1 (Nat.le_of_ble_eq_true rfl) dL_law_769 (List.Perm.refl _) (ws' := WW G a a2 o S2 M f) (pw _ _ _) (fun H locs hs => ?_)
  refine lv_aload_n hx hb dL_law_772 rfl (lv_at hl 2 rfl) ?_
  refine lv_aload_n hx hb dL_law_773 rfl (lv_at hl 0 rfl) ?_
  refine lv_iload hx hb dL_law_774 (lv_at hl 4 rfl) ?_
  refine lv_iconst (v := (1 : Int32)) hx hb dL_law_776 (by decide) ?_
  refine lv_iadd hx hb dL_law_777 ?_
  refine va_sld hx hb hX hbl hbA hs.2.2 (inK (k := 1) hi (by decide) hL) dL_law_778 ?_
  refine lv_aload_n hx hb dL_law_779 rfl (lv_at hl 0 rfl) ?_
  refine lv_iload hx hb dL_law_780 (lv_at hl 4 rfl) ?_
  refine lv_iconst (v := (2 : Int32)) hx hb dL_law_782 (by decide) ?_
  refine lv_iadd hx hb dL_law_783 ?_
  refine va_sld hx hb hX hbl hbA hs.2.2 (inK (k := 2) hi (by decide) hL) dL_law_784 ?_
  refine sx_V (As := [.int (xs (nI i + (1 : Int32)).toNatClampNeg), .int (xs (nI i + (2 : Int32)).toNatClampNeg)]) (rest := [.long r]) (st1 := [.long r, .long r]) (c_X5_gets G l a2 M (xs (nI i + (1 : Int32)).toNatClampNeg) (xs (nI i + (2 : Int32)).toNatClampNeg) (r, M2) e2) vl_92 ⟨(Nat.le_of_ble_eq_true rfl), (Nat.le_of_ble_eq_true rfl)⟩ hx hb hml hown hts hE hA hs ⟨Nat.le_of_succ_le hc, Nat.le_trans (Nat.le_add_right _ 6) hsl⟩ 0 rfl rfl rfl rfl rfl hl.1 (Nat.le_of_ble_eq_true rfl) dL_law_785 (List.Perm.refl _) (ws' := WW G a a2 o S2 M2 f) (List.Perm.refl _) (fun H locs hs => ?_)
  refine W.lcmp hx hb dL_law_788 ?_
  refine lv_if_eq (tgt := 1513) hx hb dL_law_789 (by decide) (fun hc9 => ?_) (fun hc9 => ?_)
  · exact W.widen (Nat.le_add_right _ 1) (Nat.le_add_right _ 6) (hk S2 M2 f H locs ls hr2 hs hl)
  · exact absurd (lgc r) hc9
set_option maxHeartbeats 4000000 in
set_option maxRecDepth 100000 in
theorem k_17 {p : Program} {l : Launch} {e : Env} {s : State} {m : MethodId} {below : List Frame} {meth : Method} {c : Code} {G : GT} {A : Nat → Prop} {b L i : Nat} {xs : Nat → Int32} {a a2 : Nat → Nat} {o : Nat} {S : XS} {M : MS} {f : Fin 1 → Int64} {H : Heap} {locs : List Loc} {cells slots : Nat} {Q : State → Prop} {ls : Array Slot} (K : LAWK p l s m c b L xs G A) (hi : i + 6 ≤ L) (hL : L ≤ 3072) (hr : Rel S M) (hs : SI G A s H locs (WW G a a2 o S M f)) (hl : lv_has ls 7 (LVs b a a2 o i)) (hc : cells + 1 ≤ 601024) (hsl : slots + 6 ≤ 7293034)
    (hk : ∀ (S' : XS) (M' : MS) (f' : Fin 1 → Int64) (H : Heap) (locs : List Loc) (ls : Array Slot), Rel S' M' → SI G A s H locs (WW G a a2 o S' M' f') → lv_has ls 7 (LVs b a a2 o i) → W p l e room_1 s m #[Value.ref b] below meth c H locs (cells + 1) (slots + 6) Q (F0 m 1513 ls [])) : W p l e room_1 s m #[Value.ref b] below meth c H locs cells slots Q (F0 m 794 ls []) := by
  obtain ⟨hx, hb, hml, hown, hts, hE, hZ, hA, hX, hbl, hbA, hfl⟩ := K
  have hs := sx_perm hs (pw _ _ _)
  refine lv_aload_n hx hb dL_law_794 rfl (lv_at hl 1 rfl) ?_
  refine lv_aload_n hx hb dL_law_795 rfl (lv_at hl 0 rfl) ?_
  refine lv_iload hx hb dL_law_796 (lv_at hl 4 rfl) ?_
  refine lv_iconst (v := (1 : Int32)) hx hb dL_law_798 (by decide) ?_
  refine lv_iadd hx hb dL_law_799 ?_
  refine va_sld hx hb hX hbl hbA hs.2.2 (inK (k := 1) hi (by decide) hL) dL_law_800 ?_
  refine lv_aload_n hx hb dL_law_801 rfl (lv_at hl 0 rfl) ?_
  refine lv_iload hx hb dL_law_802 (lv_at hl 4 rfl) ?_
  refine lv_iconst (v := (2 : Int32)) hx hb dL_law_804 (by decide) ?_
  refine lv_iadd hx hb dL_law_805 ?_
  refine va_sld hx hb hX hbl hbA hs.2.2 (inK (k := 2) hi (by decide) hL) dL_law_806 ?_
  obtain ⟨r, S2, M2, e1, e2, hr2⟩ := (A_cover hr.core (xs (nI i + (1 : Int32)).toNatClampNeg) (xs (nI i + (2 : Int32)).toNatClampNeg)).step hr
  refine sx_V (As := [.int (xs (nI i + (1 : Int32)).toNatClampNeg), .int (xs (nI i + (2 : Int32)).toNatClampNeg)]) (rest := []) (st1 := [.long r]) (c_X4_cover G l a S (xs (nI i + (1 : Int32)).toNatClampNeg) (xs (nI i + (2 : Int32)).toNatClampNeg) (r, S2) e1) vl_93 ⟨(Nat.le_of_ble_eq_true rfl), (Nat.le_of_ble_eq_true rfl)⟩ hx hb hml hown hts hE hA hs ⟨Nat.le_of_succ_le hc, Nat.le_trans (Nat.le_add_right _ 6) hsl⟩ 0 rfl rfl rfl rfl rfl hl.1 (Nat.le_of_ble_eq_true rfl) dL_law_807 (List.Perm.refl _) (ws' := WW G a a2 o S2 M f) (pw _ _ _) (fun H locs hs => ?_)
  refine lv_aload_n hx hb dL_law_810 rfl (lv_at hl 2 rfl) ?_
  refine lv_aload_n hx hb dL_law_811 rfl (lv_at hl 0 rfl) ?_
  refine lv_iload hx hb dL_law_812 (lv_at hl 4 rfl) ?_
  refine lv_iconst (v := (1 : Int32)) hx hb dL_law_814 (by decide) ?_
  refine lv_iadd hx hb dL_law_815 ?_
  refine va_sld hx hb hX hbl hbA hs.2.2 (inK (k := 1) hi (by decide) hL) dL_law_816 ?_
  refine lv_aload_n hx hb dL_law_817 rfl (lv_at hl 0 rfl) ?_
  refine lv_iload hx hb dL_law_818 (lv_at hl 4 rfl) ?_
  refine lv_iconst (v := (2 : Int32)) hx hb dL_law_820 (by decide) ?_
  refine lv_iadd hx hb dL_law_821 ?_
  refine va_sld hx hb hX hbl hbA hs.2.2 (inK (k := 2) hi (by decide) hL) dL_law_822 ?_
  refine sx_V (As := [.int (xs (nI i + (1 : Int32)).toNatClampNeg), .int (xs (nI i + (2 : Int32)).toNatClampNeg)]) (rest := [.long r]) (st1 := [.long r, .long r]) (c_X5_cover G l a2 M (xs (nI i + (1 : Int32)).toNatClampNeg) (xs (nI i + (2 : Int32)).toNatClampNeg) (r, M2) e2) vl_96 ⟨(Nat.le_of_ble_eq_true rfl), (Nat.le_of_ble_eq_true rfl)⟩ hx hb hml hown hts hE hA hs ⟨Nat.le_of_succ_le hc, Nat.le_trans (Nat.le_add_right _ 6) hsl⟩ 0 rfl rfl rfl rfl rfl hl.1 (Nat.le_of_ble_eq_true rfl) dL_law_823 (List.Perm.refl _) (ws' := WW G a a2 o S2 M2 f) (List.Perm.refl _) (fun H locs hs => ?_)
  refine W.lcmp hx hb dL_law_826 ?_
  refine lv_if_eq (tgt := 1513) hx hb dL_law_827 (by decide) (fun hc9 => ?_) (fun hc9 => ?_)
  · exact W.widen (Nat.le_add_right _ 1) (Nat.le_add_right _ 6) (hk S2 M2 f H locs ls hr2 hs hl)
  · exact absurd (lgc r) hc9
set_option maxHeartbeats 4000000 in
set_option maxRecDepth 100000 in
theorem k_18 {p : Program} {l : Launch} {e : Env} {s : State} {m : MethodId} {below : List Frame} {meth : Method} {c : Code} {G : GT} {A : Nat → Prop} {b L i : Nat} {xs : Nat → Int32} {a a2 : Nat → Nat} {o : Nat} {S : XS} {M : MS} {f : Fin 1 → Int64} {H : Heap} {locs : List Loc} {cells slots : Nat} {Q : State → Prop} {ls : Array Slot} (K : LAWK p l s m c b L xs G A) (hi : i + 6 ≤ L) (hL : L ≤ 3072) (hr : Rel S M) (hs : SI G A s H locs (WW G a a2 o S M f)) (hl : lv_has ls 7 (LVs b a a2 o i)) (hc : cells + 1 ≤ 601024) (hsl : slots + 6 ≤ 7293034)
    (hk : ∀ (S' : XS) (M' : MS) (f' : Fin 1 → Int64) (H : Heap) (locs : List Loc) (ls : Array Slot), Rel S' M' → SI G A s H locs (WW G a a2 o S' M' f') → lv_has ls 7 (LVs b a a2 o i) → W p l e room_1 s m #[Value.ref b] below meth c H locs (cells + 1) (slots + 6) Q (F0 m 1513 ls [])) : W p l e room_1 s m #[Value.ref b] below meth c H locs cells slots Q (F0 m 832 ls []) := by
  obtain ⟨hx, hb, hml, hown, hts, hE, hZ, hA, hX, hbl, hbA, hfl⟩ := K
  have hs := sx_perm hs (pw _ _ _)
  refine lv_aload_n hx hb dL_law_832 rfl (lv_at hl 1 rfl) ?_
  refine lv_aload_n hx hb dL_law_833 rfl (lv_at hl 0 rfl) ?_
  refine lv_iload hx hb dL_law_834 (lv_at hl 4 rfl) ?_
  refine lv_iconst (v := (1 : Int32)) hx hb dL_law_836 (by decide) ?_
  refine lv_iadd hx hb dL_law_837 ?_
  refine va_sld hx hb hX hbl hbA hs.2.2 (inK (k := 1) hi (by decide) hL) dL_law_838 ?_
  obtain ⟨r, S2, M2, e1, e2, hr2⟩ := (A_net hr.core (xs (nI i + (1 : Int32)).toNatClampNeg)).step hr
  refine sx_V (As := [.int (xs (nI i + (1 : Int32)).toNatClampNeg)]) (rest := []) (st1 := [.long r]) (c_X4_net G l a S (xs (nI i + (1 : Int32)).toNatClampNeg) (r, S2) e1) vl_97 ⟨(Nat.le_of_ble_eq_true rfl), (Nat.le_of_ble_eq_true rfl)⟩ hx hb hml hown hts hE hA hs ⟨Nat.le_of_succ_le hc, Nat.le_trans (Nat.le_add_right _ 6) hsl⟩ 0 rfl rfl rfl rfl rfl hl.1 (Nat.le_of_ble_eq_true rfl) dL_law_839 (List.Perm.refl _) (ws' := WW G a a2 o S2 M f) (pw _ _ _) (fun H locs hs => ?_)
  refine lv_aload_n hx hb dL_law_842 rfl (lv_at hl 2 rfl) ?_
  refine lv_aload_n hx hb dL_law_843 rfl (lv_at hl 0 rfl) ?_
  refine lv_iload hx hb dL_law_844 (lv_at hl 4 rfl) ?_
  refine lv_iconst (v := (1 : Int32)) hx hb dL_law_846 (by decide) ?_
  refine lv_iadd hx hb dL_law_847 ?_
  refine va_sld hx hb hX hbl hbA hs.2.2 (inK (k := 1) hi (by decide) hL) dL_law_848 ?_
  refine sx_V (As := [.int (xs (nI i + (1 : Int32)).toNatClampNeg)]) (rest := [.long r]) (st1 := [.long r, .long r]) (c_X5_net G l a2 M (xs (nI i + (1 : Int32)).toNatClampNeg) (r, M2) e2) vl_100 ⟨(Nat.le_of_ble_eq_true rfl), (Nat.le_of_ble_eq_true rfl)⟩ hx hb hml hown hts hE hA hs ⟨Nat.le_of_succ_le hc, Nat.le_trans (Nat.le_add_right _ 6) hsl⟩ 0 rfl rfl rfl rfl rfl hl.1 (Nat.le_of_ble_eq_true rfl) dL_law_849 (List.Perm.refl _) (ws' := WW G a a2 o S2 M2 f) (List.Perm.refl _) (fun H locs hs => ?_)
  refine W.lcmp hx hb dL_law_852 ?_
  refine lv_if_eq (tgt := 1513) hx hb dL_law_853 (by decide) (fun hc9 => ?_) (fun hc9 => ?_)
  · exact W.widen (Nat.le_add_right _ 1) (Nat.le_add_right _ 6) (hk S2 M2 f H locs ls hr2 hs hl)
  · exact absurd (lgc r) hc9
