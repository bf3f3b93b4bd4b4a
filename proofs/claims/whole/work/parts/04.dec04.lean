theorem dX11_restore_15 : decode cX11_restore 15 = .ok (.iload_n 1, 1) := by decide +kernel
theorem dX11_restore_16 : decode cX11_restore 16 = .ok (.aaload, 1) := by decide +kernel
theorem dX11_restore_17 : decode cX11_restore 17 = .ok (.astore_n 3, 1) := by decide +kernel
theorem dX11_restore_18 : decode cX11_restore 18 = .ok (.aload_n 2, 1) := by decide +kernel
theorem dX11_restore_19 : decode cX11_restore 19 = .ok (.ifnull 7, 3) := by decide +kernel
theorem dX11_restore_22 : decode cX11_restore 22 = .ok (.aload_n 3, 1) := by decide +kernel
theorem dX11_restore_23 : decode cX11_restore 23 = .ok (.ifnonnull 14, 3) := by decide +kernel
theorem dX11_restore_26 : decode cX11_restore 26 = .ok (.new 408, 3) := by decide +kernel
theorem dX11_restore_29 : decode cX11_restore 29 = .ok (.dup, 1) := by decide +kernel
theorem dX11_restore_30 : decode cX11_restore 30 = .ok (.ldc_w 410, 3) := by decide +kernel
theorem dX11_restore_33 : decode cX11_restore 33 = .ok (.invokespecial 412, 3) := by decide +kernel
theorem dX11_restore_36 : decode cX11_restore 36 = .ok (.athrow, 1) := by decide +kernel
theorem dX11_restore_37 : decode cX11_restore 37 = .ok (.aload_n 0, 1) := by decide +kernel
theorem dX11_restore_38 : decode cX11_restore 38 = .ok (.aload_n 2, 1) := by decide +kernel
theorem dX11_restore_39 : decode cX11_restore 39 = .ok (.putfield 26, 3) := by decide +kernel
theorem dX11_restore_42 : decode cX11_restore 42 = .ok (.aload_n 0, 1) := by decide +kernel
theorem dX11_restore_43 : decode cX11_restore 43 = .ok (.getfield 33, 3) := by decide +kernel
theorem dX11_restore_46 : decode cX11_restore 46 = .ok (.aload_n 3, 1) := by decide +kernel
theorem dX11_restore_47 : decode cX11_restore 47 = .ok (.invokevirtual 404, 3) := by decide +kernel
theorem dX11_restore_50 : decode cX11_restore 50 = .ok (.return_, 1) := by decide +kernel
theorem dX11_count_0 : decode cX11_count 0 = .ok (.iload_n 1, 1) := by decide +kernel
theorem dX11_count_1 : decode cX11_count 1 = .ok (.tableswitch 120 0 8 #[51, 59, 67, 75, 83, 91, 99, 107, 115], 51) := by decide +kernel
theorem dX11_count_52 : decode cX11_count 52 = .ok (.aload_n 0, 1) := by decide +kernel
theorem dX11_count_53 : decode cX11_count 53 = .ok (.getfield 26, 3) := by decide +kernel
theorem dX11_count_56 : decode cX11_count 56 = .ok (.getfield 129, 3) := by decide +kernel
theorem dX11_count_59 : decode cX11_count 59 = .ok (.ireturn, 1) := by decide +kernel
theorem dX11_count_60 : decode cX11_count 60 = .ok (.aload_n 0, 1) := by decide +kernel
theorem dX11_count_61 : decode cX11_count 61 = .ok (.getfield 26, 3) := by decide +kernel
theorem dX11_count_64 : decode cX11_count 64 = .ok (.getfield 162, 3) := by decide +kernel
theorem dX11_count_67 : decode cX11_count 67 = .ok (.ireturn, 1) := by decide +kernel
theorem dX11_count_68 : decode cX11_count 68 = .ok (.aload_n 0, 1) := by decide +kernel
theorem dX11_count_69 : decode cX11_count 69 = .ok (.getfield 26, 3) := by decide +kernel
theorem dX11_count_72 : decode cX11_count 72 = .ok (.getfield 132, 3) := by decide +kernel
theorem dX11_count_75 : decode cX11_count 75 = .ok (.ireturn, 1) := by decide +kernel
theorem dX11_count_76 : decode cX11_count 76 = .ok (.aload_n 0, 1) := by decide +kernel
theorem dX11_count_77 : decode cX11_count 77 = .ok (.getfield 26, 3) := by decide +kernel
theorem dX11_count_80 : decode cX11_count 80 = .ok (.getfield 396, 3) := by decide +kernel
theorem dX11_count_83 : decode cX11_count 83 = .ok (.ireturn, 1) := by decide +kernel
theorem dX11_count_84 : decode cX11_count 84 = .ok (.aload_n 0, 1) := by decide +kernel
theorem dX11_count_85 : decode cX11_count 85 = .ok (.getfield 26, 3) := by decide +kernel
theorem dX11_count_88 : decode cX11_count 88 = .ok (.getfield 413, 3) := by decide +kernel
theorem dX11_count_91 : decode cX11_count 91 = .ok (.ireturn, 1) := by decide +kernel
theorem dX11_count_92 : decode cX11_count 92 = .ok (.aload_n 0, 1) := by decide +kernel
theorem dX11_count_93 : decode cX11_count 93 = .ok (.getfield 26, 3) := by decide +kernel
theorem dX11_count_96 : decode cX11_count 96 = .ok (.getfield 268, 3) := by decide +kernel
theorem dX11_count_99 : decode cX11_count 99 = .ok (.ireturn, 1) := by decide +kernel
theorem dX11_count_100 : decode cX11_count 100 = .ok (.aload_n 0, 1) := by decide +kernel
theorem dX11_count_101 : decode cX11_count 101 = .ok (.getfield 26, 3) := by decide +kernel
theorem dX11_count_104 : decode cX11_count 104 = .ok (.getfield 296, 3) := by decide +kernel
theorem dX11_count_107 : decode cX11_count 107 = .ok (.ireturn, 1) := by decide +kernel
theorem dX11_count_108 : decode cX11_count 108 = .ok (.aload_n 0, 1) := by decide +kernel
theorem dX11_count_109 : decode cX11_count 109 = .ok (.getfield 33, 3) := by decide +kernel
theorem dX11_count_112 : decode cX11_count 112 = .ok (.invokevirtual 416, 3) := by decide +kernel
theorem dX11_count_115 : decode cX11_count 115 = .ok (.ireturn, 1) := by decide +kernel
theorem dX11_count_116 : decode cX11_count 116 = .ok (.aload_n 0, 1) := by decide +kernel
theorem dX11_count_117 : decode cX11_count 117 = .ok (.getfield 13, 3) := by decide +kernel
theorem dX11_count_120 : decode cX11_count 120 = .ok (.ireturn, 1) := by decide +kernel
theorem dX11_count_121 : decode cX11_count 121 = .ok (.iconst (-1), 1) := by decide +kernel
theorem dX11_count_122 : decode cX11_count 122 = .ok (.ireturn, 1) := by decide +kernel
theorem dX11_checkRoom_0 : decode cX11_checkRoom 0 = .ok (.iload_n 1, 1) := by decide +kernel
theorem dX11_checkRoom_1 : decode cX11_checkRoom 1 = .ok (.ifCond .lt 14, 3) := by decide +kernel
theorem dX11_checkRoom_4 : decode cX11_checkRoom 4 = .ok (.iload_n 1, 1) := by decide +kernel
theorem dX11_checkRoom_5 : decode cX11_checkRoom 5 = .ok (.aload_n 0, 1) := by decide +kernel
theorem dX11_checkRoom_6 : decode cX11_checkRoom 6 = .ok (.getfield 26, 3) := by decide +kernel
theorem dX11_checkRoom_9 : decode cX11_checkRoom 9 = .ok (.getfield 162, 3) := by decide +kernel
theorem dX11_checkRoom_12 : decode cX11_checkRoom 12 = .ok (.if_icmp .lt 14, 3) := by decide +kernel
theorem dX11_checkRoom_15 : decode cX11_checkRoom 15 = .ok (.new 135, 3) := by decide +kernel
theorem dX11_checkRoom_18 : decode cX11_checkRoom 18 = .ok (.dup, 1) := by decide +kernel
theorem dX11_checkRoom_19 : decode cX11_checkRoom 19 = .ok (.ldc_w 419, 3) := by decide +kernel
theorem dX11_checkRoom_22 : decode cX11_checkRoom 22 = .ok (.invokespecial 139, 3) := by decide +kernel
theorem dX11_checkRoom_25 : decode cX11_checkRoom 25 = .ok (.athrow, 1) := by decide +kernel
theorem dX11_checkRoom_26 : decode cX11_checkRoom 26 = .ok (.return_, 1) := by decide +kernel
theorem dX11_checkKind_0 : decode cX11_checkKind 0 = .ok (.iload_n 1, 1) := by decide +kernel
theorem dX11_checkKind_1 : decode cX11_checkKind 1 = .ok (.ifCond .lt 14, 3) := by decide +kernel
theorem dX11_checkKind_4 : decode cX11_checkKind 4 = .ok (.iload_n 1, 1) := by decide +kernel
theorem dX11_checkKind_5 : decode cX11_checkKind 5 = .ok (.aload_n 0, 1) := by decide +kernel
theorem dX11_checkKind_6 : decode cX11_checkKind 6 = .ok (.getfield 26, 3) := by decide +kernel
theorem dX11_checkKind_9 : decode cX11_checkKind 9 = .ok (.getfield 396, 3) := by decide +kernel
theorem dX11_checkKind_12 : decode cX11_checkKind 12 = .ok (.if_icmp .lt 14, 3) := by decide +kernel
theorem dX11_checkKind_15 : decode cX11_checkKind 15 = .ok (.new 135, 3) := by decide +kernel
theorem dX11_checkKind_18 : decode cX11_checkKind 18 = .ok (.dup, 1) := by decide +kernel
theorem dX11_checkKind_19 : decode cX11_checkKind 19 = .ok (.ldc_w 421, 3) := by decide +kernel
theorem dX11_checkKind_22 : decode cX11_checkKind 22 = .ok (.invokespecial 139, 3) := by decide +kernel
theorem dX11_checkKind_25 : decode cX11_checkKind 25 = .ok (.athrow, 1) := by decide +kernel
theorem dX11_checkKind_26 : decode cX11_checkKind 26 = .ok (.return_, 1) := by decide +kernel
theorem dX11_checkHour_0 : decode cX11_checkHour 0 = .ok (.iload_n 0, 1) := by decide +kernel
theorem dX11_checkHour_1 : decode cX11_checkHour 1 = .ok (.ifCond .lt 9, 3) := by decide +kernel
theorem dX11_checkHour_4 : decode cX11_checkHour 4 = .ok (.iload_n 0, 1) := by decide +kernel
theorem dX11_checkHour_5 : decode cX11_checkHour 5 = .ok (.bipush 24, 2) := by decide +kernel
theorem dX11_checkHour_7 : decode cX11_checkHour 7 = .ok (.if_icmp .lt 14, 3) := by decide +kernel
theorem dX11_checkHour_10 : decode cX11_checkHour 10 = .ok (.new 106, 3) := by decide +kernel
theorem dX11_checkHour_13 : decode cX11_checkHour 13 = .ok (.dup, 1) := by decide +kernel
theorem dX11_checkHour_14 : decode cX11_checkHour 14 = .ok (.ldc_w 423, 3) := by decide +kernel
theorem dX11_checkHour_17 : decode cX11_checkHour 17 = .ok (.invokespecial 110, 3) := by decide +kernel
theorem dX11_checkHour_20 : decode cX11_checkHour 20 = .ok (.athrow, 1) := by decide +kernel
theorem dX11_checkHour_21 : decode cX11_checkHour 21 = .ok (.return_, 1) := by decide +kernel
theorem dX11_checkWhat_0 : decode cX11_checkWhat 0 = .ok (.iload_n 0, 1) := by decide +kernel
theorem dX11_checkWhat_1 : decode cX11_checkWhat 1 = .ok (.iload_n 1, 1) := by decide +kernel
theorem dX11_checkWhat_2 : decode cX11_checkWhat 2 = .ok (.if_icmp .lt 8, 3) := by decide +kernel
theorem dX11_checkWhat_5 : decode cX11_checkWhat 5 = .ok (.iload_n 0, 1) := by decide +kernel
theorem dX11_checkWhat_6 : decode cX11_checkWhat 6 = .ok (.iload_n 2, 1) := by decide +kernel
theorem dX11_checkWhat_7 : decode cX11_checkWhat 7 = .ok (.if_icmp .le 14, 3) := by decide +kernel
theorem dX11_checkWhat_10 : decode cX11_checkWhat 10 = .ok (.new 106, 3) := by decide +kernel
theorem dX11_checkWhat_13 : decode cX11_checkWhat 13 = .ok (.dup, 1) := by decide +kernel
theorem dX11_checkWhat_14 : decode cX11_checkWhat 14 = .ok (.ldc_w 343, 3) := by decide +kernel
theorem dX11_checkWhat_17 : decode cX11_checkWhat 17 = .ok (.invokespecial 110, 3) := by decide +kernel
theorem dX11_checkWhat_20 : decode cX11_checkWhat 20 = .ok (.athrow, 1) := by decide +kernel
theorem dX11_checkWhat_21 : decode cX11_checkWhat 21 = .ok (.return_, 1) := by decide +kernel
theorem dX11_checkSet_0 : decode cX11_checkSet 0 = .ok (.iload_n 1, 1) := by decide +kernel
theorem dX11_checkSet_1 : decode cX11_checkSet 1 = .ok (.aload_n 0, 1) := by decide +kernel
theorem dX11_checkSet_2 : decode cX11_checkSet 2 = .ok (.getfield 26, 3) := by decide +kernel
theorem dX11_checkSet_5 : decode cX11_checkSet 5 = .ok (.invokevirtual 216, 3) := by decide +kernel
theorem dX11_checkSet_8 : decode cX11_checkSet 8 = .ok (.iconst (-1), 1) := by decide +kernel
theorem dX11_checkSet_9 : decode cX11_checkSet 9 = .ok (.ixor, 1) := by decide +kernel
theorem dX11_checkSet_10 : decode cX11_checkSet 10 = .ok (.iand, 1) := by decide +kernel
theorem dX11_checkSet_11 : decode cX11_checkSet 11 = .ok (.ifCond .eq 14, 3) := by decide +kernel
theorem dX11_checkSet_14 : decode cX11_checkSet 14 = .ok (.new 106, 3) := by decide +kernel
theorem dX11_checkSet_17 : decode cX11_checkSet 17 = .ok (.dup, 1) := by decide +kernel
theorem dX11_checkSet_18 : decode cX11_checkSet 18 = .ok (.ldc_w 425, 3) := by decide +kernel
theorem dX11_checkSet_21 : decode cX11_checkSet 21 = .ok (.invokespecial 110, 3) := by decide +kernel
theorem dX11_checkSet_24 : decode cX11_checkSet 24 = .ok (.athrow, 1) := by decide +kernel
theorem dX11_checkSet_25 : decode cX11_checkSet 25 = .ok (.return_, 1) := by decide +kernel
theorem dX11_checkRow_0 : decode cX11_checkRow 0 = .ok (.iload_n 0, 1) := by decide +kernel
theorem dX11_checkRow_1 : decode cX11_checkRow 1 = .ok (.iload_n 1, 1) := by decide +kernel
theorem dX11_checkRow_2 : decode cX11_checkRow 2 = .ok (.ifCond .eq 7, 3) := by decide +kernel
theorem dX11_checkRow_5 : decode cX11_checkRow 5 = .ok (.iconst 3, 1) := by decide +kernel
theorem dX11_checkRow_6 : decode cX11_checkRow 6 = .ok (.goto 4, 3) := by decide +kernel
theorem dX11_checkRow_9 : decode cX11_checkRow 9 = .ok (.iconst 1, 1) := by decide +kernel
theorem dX11_checkRow_10 : decode cX11_checkRow 10 = .ok (.if_icmp .lt 9, 3) := by decide +kernel
theorem dX11_checkRow_13 : decode cX11_checkRow 13 = .ok (.iload_n 0, 1) := by decide +kernel
theorem dX11_checkRow_14 : decode cX11_checkRow 14 = .ok (.bipush 40, 2) := by decide +kernel
theorem dX11_checkRow_16 : decode cX11_checkRow 16 = .ok (.if_icmp .le 14, 3) := by decide +kernel
theorem dX11_checkRow_19 : decode cX11_checkRow 19 = .ok (.new 106, 3) := by decide +kernel
theorem dX11_checkRow_22 : decode cX11_checkRow 22 = .ok (.dup, 1) := by decide +kernel
theorem dX11_checkRow_23 : decode cX11_checkRow 23 = .ok (.ldc_w 427, 3) := by decide +kernel
theorem dX11_checkRow_26 : decode cX11_checkRow 26 = .ok (.invokespecial 110, 3) := by decide +kernel
theorem dX11_checkRow_29 : decode cX11_checkRow 29 = .ok (.athrow, 1) := by decide +kernel
theorem dX11_checkRow_30 : decode cX11_checkRow 30 = .ok (.return_, 1) := by decide +kernel
theorem dX11_checkTray_0 : decode cX11_checkTray 0 = .ok (.iload_n 0, 1) := by decide +kernel
theorem dX11_checkTray_1 : decode cX11_checkTray 1 = .ok (.ifCond .lt 8, 3) := by decide +kernel
theorem dX11_checkTray_4 : decode cX11_checkTray 4 = .ok (.iload_n 0, 1) := by decide +kernel
theorem dX11_checkTray_5 : decode cX11_checkTray 5 = .ok (.iconst 4, 1) := by decide +kernel
theorem dX11_checkTray_6 : decode cX11_checkTray 6 = .ok (.if_icmp .lt 14, 3) := by decide +kernel
theorem dX11_checkTray_9 : decode cX11_checkTray 9 = .ok (.new 135, 3) := by decide +kernel
theorem dX11_checkTray_12 : decode cX11_checkTray 12 = .ok (.dup, 1) := by decide +kernel
theorem dX11_checkTray_13 : decode cX11_checkTray 13 = .ok (.ldc_w 429, 3) := by decide +kernel
theorem dX11_checkTray_16 : decode cX11_checkTray 16 = .ok (.invokespecial 139, 3) := by decide +kernel
theorem dX11_checkTray_19 : decode cX11_checkTray 19 = .ok (.athrow, 1) := by decide +kernel
theorem dX11_checkTray_20 : decode cX11_checkTray 20 = .ok (.return_, 1) := by decide +kernel
theorem dX11_checkTrayThere_0 : decode cX11_checkTrayThere 0 = .ok (.iload_n 1, 1) := by decide +kernel
theorem dX11_checkTrayThere_1 : decode cX11_checkTrayThere 1 = .ok (.invokestatic 378, 3) := by decide +kernel
theorem dX11_checkTrayThere_4 : decode cX11_checkTrayThere 4 = .ok (.aload_n 0, 1) := by decide +kernel
theorem dX11_checkTrayThere_5 : decode cX11_checkTrayThere 5 = .ok (.getfield 55, 3) := by decide +kernel
theorem dX11_checkTrayThere_8 : decode cX11_checkTrayThere 8 = .ok (.getfield 317, 3) := by decide +kernel
theorem dX11_checkTrayThere_11 : decode cX11_checkTrayThere 11 = .ok (.iload_n 1, 1) := by decide +kernel
theorem dX11_checkTrayThere_12 : decode cX11_checkTrayThere 12 = .ok (.iaload, 1) := by decide +kernel
theorem dX11_checkTrayThere_13 : decode cX11_checkTrayThere 13 = .ok (.iconst (-1), 1) := by decide +kernel
theorem dX11_checkTrayThere_14 : decode cX11_checkTrayThere 14 = .ok (.if_icmp .ne 14, 3) := by decide +kernel
theorem dX11_checkTrayThere_17 : decode cX11_checkTrayThere 17 = .ok (.new 408, 3) := by decide +kernel
theorem dX11_checkTrayThere_20 : decode cX11_checkTrayThere 20 = .ok (.dup, 1) := by decide +kernel
theorem dX11_checkTrayThere_21 : decode cX11_checkTrayThere 21 = .ok (.ldc_w 431, 3) := by decide +kernel
theorem dX11_checkTrayThere_24 : decode cX11_checkTrayThere 24 = .ok (.invokespecial 412, 3) := by decide +kernel
theorem dX11_checkTrayThere_27 : decode cX11_checkTrayThere 27 = .ok (.athrow, 1) := by decide +kernel
theorem dX11_checkTrayThere_28 : decode cX11_checkTrayThere 28 = .ok (.return_, 1) := by decide +kernel
theorem dX11_checkImage_0 : decode cX11_checkImage 0 = .ok (.iload_n 0, 1) := by decide +kernel
theorem dX11_checkImage_1 : decode cX11_checkImage 1 = .ok (.ifCond .lt 8, 3) := by decide +kernel
theorem dX11_checkImage_4 : decode cX11_checkImage 4 = .ok (.iload_n 0, 1) := by decide +kernel
theorem dX11_checkImage_5 : decode cX11_checkImage 5 = .ok (.iconst 3, 1) := by decide +kernel
theorem dX11_checkImage_6 : decode cX11_checkImage 6 = .ok (.if_icmp .lt 14, 3) := by decide +kernel
theorem dX11_checkImage_9 : decode cX11_checkImage 9 = .ok (.new 135, 3) := by decide +kernel
theorem dX11_checkImage_12 : decode cX11_checkImage 12 = .ok (.dup, 1) := by decide +kernel
theorem dX11_checkImage_13 : decode cX11_checkImage 13 = .ok (.ldc_w 433, 3) := by decide +kernel
theorem dX11_checkImage_16 : decode cX11_checkImage 16 = .ok (.invokespecial 139, 3) := by decide +kernel
theorem dX11_checkImage_19 : decode cX11_checkImage 19 = .ok (.athrow, 1) := by decide +kernel
theorem dX11_checkImage_20 : decode cX11_checkImage 20 = .ok (.return_, 1) := by decide +kernel
theorem dX11_areHours_0 : decode cX11_areHours 0 = .ok (.lload_n 0, 1) := by decide +kernel
theorem dX11_areHours_1 : decode cX11_areHours 1 = .ok (.lconst 0, 1) := by decide +kernel
theorem dX11_areHours_2 : decode cX11_areHours 2 = .ok (.lcmp, 1) := by decide +kernel
theorem dX11_areHours_3 : decode cX11_areHours 3 = .ok (.ifCond .lt 15, 3) := by decide +kernel
theorem dX11_areHours_6 : decode cX11_areHours 6 = .ok (.lload_n 0, 1) := by decide +kernel
theorem dX11_areHours_7 : decode cX11_areHours 7 = .ok (.ldc2_w 435, 3) := by decide +kernel
theorem dX11_areHours_10 : decode cX11_areHours 10 = .ok (.lcmp, 1) := by decide +kernel
theorem dX11_areHours_11 : decode cX11_areHours 11 = .ok (.ifCond .gt 7, 3) := by decide +kernel
theorem dX11_areHours_14 : decode cX11_areHours 14 = .ok (.iconst 1, 1) := by decide +kernel
theorem dX11_areHours_15 : decode cX11_areHours 15 = .ok (.goto 4, 3) := by decide +kernel
theorem dX11_areHours_18 : decode cX11_areHours 18 = .ok (.iconst 0, 1) := by decide +kernel
theorem dX11_areHours_19 : decode cX11_areHours 19 = .ok (.ireturn, 1) := by decide +kernel
theorem dX11_putOnTape_0 : decode cX11_putOnTape 0 = .ok (.bipush 24, 2) := by decide +kernel
theorem dX11_putOnTape_2 : decode cX11_putOnTape 2 = .ok (.istore_n 2, 1) := by decide +kernel
theorem dX11_putOnTape_3 : decode cX11_putOnTape 3 = .ok (.iload_n 2, 1) := by decide +kernel
theorem dX11_putOnTape_4 : decode cX11_putOnTape 4 = .ok (.ifCond .lt 42, 3) := by decide +kernel
theorem dX11_putOnTape_7 : decode cX11_putOnTape 7 = .ok (.aload_n 0, 1) := by decide +kernel
theorem dX11_putOnTape_8 : decode cX11_putOnTape 8 = .ok (.getfield 13, 3) := by decide +kernel
theorem dX11_putOnTape_11 : decode cX11_putOnTape 11 = .ok (.sipush 800, 3) := by decide +kernel
theorem dX11_putOnTape_14 : decode cX11_putOnTape 14 = .ok (.if_icmp .ge 26, 3) := by decide +kernel
theorem dX11_putOnTape_17 : decode cX11_putOnTape 17 = .ok (.aload_n 0, 1) := by decide +kernel
theorem dX11_putOnTape_18 : decode cX11_putOnTape 18 = .ok (.getfield 9, 3) := by decide +kernel
theorem dX11_putOnTape_21 : decode cX11_putOnTape 21 = .ok (.aload_n 0, 1) := by decide +kernel
theorem dX11_putOnTape_22 : decode cX11_putOnTape 22 = .ok (.getfield 13, 3) := by decide +kernel
theorem dX11_putOnTape_25 : decode cX11_putOnTape 25 = .ok (.iload_n 1, 1) := by decide +kernel
theorem dX11_putOnTape_26 : decode cX11_putOnTape 26 = .ok (.iload_n 2, 1) := by decide +kernel
theorem dX11_putOnTape_27 : decode cX11_putOnTape 27 = .ok (.ishr, 1) := by decide +kernel
theorem dX11_putOnTape_28 : decode cX11_putOnTape 28 = .ok (.i2b, 1) := by decide +kernel
theorem dX11_putOnTape_29 : decode cX11_putOnTape 29 = .ok (.bastore, 1) := by decide +kernel
theorem dX11_putOnTape_30 : decode cX11_putOnTape 30 = .ok (.aload_n 0, 1) := by decide +kernel
theorem dX11_putOnTape_31 : decode cX11_putOnTape 31 = .ok (.dup, 1) := by decide +kernel
theorem dX11_putOnTape_32 : decode cX11_putOnTape 32 = .ok (.getfield 13, 3) := by decide +kernel
theorem dX11_putOnTape_35 : decode cX11_putOnTape 35 = .ok (.iconst 1, 1) := by decide +kernel
theorem dX11_putOnTape_36 : decode cX11_putOnTape 36 = .ok (.iadd, 1) := by decide +kernel
theorem dX11_putOnTape_37 : decode cX11_putOnTape 37 = .ok (.putfield 13, 3) := by decide +kernel
theorem dX11_putOnTape_40 : decode cX11_putOnTape 40 = .ok (.iinc 2 (-8), 3) := by decide +kernel
theorem dX11_putOnTape_43 : decode cX11_putOnTape 43 = .ok (.goto (-40), 3) := by decide +kernel
theorem dX11_putOnTape_46 : decode cX11_putOnTape 46 = .ok (.return_, 1) := by decide +kernel
theorem dX11_darkRooms_0 : decode cX11_darkRooms 0 = .ok (.aload_n 0, 1) := by decide +kernel
theorem dX11_darkRooms_1 : decode cX11_darkRooms 1 = .ok (.getfield 26, 3) := by decide +kernel
theorem dX11_darkRooms_4 : decode cX11_darkRooms 4 = .ok (.aload_n 0, 1) := by decide +kernel
theorem dX11_darkRooms_5 : decode cX11_darkRooms 5 = .ok (.getfield 59, 3) := by decide +kernel
theorem dX11_darkRooms_8 : decode cX11_darkRooms 8 = .ok (.aload_n 0, 1) := by decide +kernel
theorem dX11_darkRooms_9 : decode cX11_darkRooms 9 = .ok (.getfield 33, 3) := by decide +kernel
theorem dX11_darkRooms_12 : decode cX11_darkRooms 12 = .ok (.getfield 171, 3) := by decide +kernel
theorem dX11_darkRooms_15 : decode cX11_darkRooms 15 = .ok (.iload_n 2, 1) := by decide +kernel
theorem dX11_darkRooms_16 : decode cX11_darkRooms 16 = .ok (.invokevirtual 188, 3) := by decide +kernel
theorem dX11_darkRooms_19 : decode cX11_darkRooms 19 = .ok (.aload_n 0, 1) := by decide +kernel
theorem dX11_darkRooms_20 : decode cX11_darkRooms 20 = .ok (.getfield 26, 3) := by decide +kernel
theorem dX11_darkRooms_23 : decode cX11_darkRooms 23 = .ok (.iload_n 1, 1) := by decide +kernel
theorem dX11_darkRooms_24 : decode cX11_darkRooms 24 = .ok (.aload_n 0, 1) := by decide +kernel
theorem dX11_darkRooms_25 : decode cX11_darkRooms 25 = .ok (.getfield 59, 3) := by decide +kernel
theorem dX11_darkRooms_28 : decode cX11_darkRooms 28 = .ok (.invokevirtual 437, 3) := by decide +kernel
theorem dX11_darkRooms_31 : decode cX11_darkRooms 31 = .ok (.ireturn, 1) := by decide +kernel
theorem dX11_darkenedBy_0 : decode cX11_darkenedBy 0 = .ok (.aload_n 0, 1) := by decide +kernel
theorem dX11_darkenedBy_1 : decode cX11_darkenedBy 1 = .ok (.getfield 33, 3) := by decide +kernel
theorem dX11_darkenedBy_4 : decode cX11_darkenedBy 4 = .ok (.iload_n 2, 1) := by decide +kernel
theorem dX11_darkenedBy_5 : decode cX11_darkenedBy 5 = .ok (.invokevirtual 184, 3) := by decide +kernel
theorem dX11_darkenedBy_8 : decode cX11_darkenedBy 8 = .ok (.istore_n 3, 1) := by decide +kernel
theorem dX11_darkenedBy_9 : decode cX11_darkenedBy 9 = .ok (.iload_n 3, 1) := by decide +kernel
theorem dX11_darkenedBy_10 : decode cX11_darkenedBy 10 = .ok (.iload_n 1, 1) := by decide +kernel
theorem dX11_darkenedBy_11 : decode cX11_darkenedBy 11 = .ok (.iand, 1) := by decide +kernel
theorem dX11_darkenedBy_12 : decode cX11_darkenedBy 12 = .ok (.ifCond .ne 5, 3) := by decide +kernel
theorem dX11_darkenedBy_15 : decode cX11_darkenedBy 15 = .ok (.iconst 0, 1) := by decide +kernel
theorem dX11_darkenedBy_16 : decode cX11_darkenedBy 16 = .ok (.ireturn, 1) := by decide +kernel
theorem dX11_darkenedBy_17 : decode cX11_darkenedBy 17 = .ok (.aload_n 0, 1) := by decide +kernel
theorem dX11_darkenedBy_18 : decode cX11_darkenedBy 18 = .ok (.iload_n 2, 1) := by decide +kernel
theorem dX11_darkenedBy_19 : decode cX11_darkenedBy 19 = .ok (.iload_n 3, 1) := by decide +kernel
theorem dX11_darkenedBy_20 : decode cX11_darkenedBy 20 = .ok (.iload_n 1, 1) := by decide +kernel
theorem dX11_darkenedBy_21 : decode cX11_darkenedBy 21 = .ok (.iconst (-1), 1) := by decide +kernel
theorem dX11_darkenedBy_22 : decode cX11_darkenedBy 22 = .ok (.ixor, 1) := by decide +kernel
theorem dX11_darkenedBy_23 : decode cX11_darkenedBy 23 = .ok (.iand, 1) := by decide +kernel
theorem dX11_darkenedBy_24 : decode cX11_darkenedBy 24 = .ok (.invokevirtual 192, 3) := by decide +kernel
theorem dX11_darkenedBy_27 : decode cX11_darkenedBy 27 = .ok (.aload_n 0, 1) := by decide +kernel
theorem dX11_darkenedBy_28 : decode cX11_darkenedBy 28 = .ok (.iload_n 2, 1) := by decide +kernel
theorem dX11_darkenedBy_29 : decode cX11_darkenedBy 29 = .ok (.iload_n 3, 1) := by decide +kernel
theorem dX11_darkenedBy_30 : decode cX11_darkenedBy 30 = .ok (.invokevirtual 192, 3) := by decide +kernel
theorem dX11_darkenedBy_33 : decode cX11_darkenedBy 33 = .ok (.iconst (-1), 1) := by decide +kernel
theorem dX11_darkenedBy_34 : decode cX11_darkenedBy 34 = .ok (.ixor, 1) := by decide +kernel
theorem dX11_darkenedBy_35 : decode cX11_darkenedBy 35 = .ok (.iand, 1) := by decide +kernel
theorem dX11_darkenedBy_36 : decode cX11_darkenedBy 36 = .ok (.ireturn, 1) := by decide +kernel
theorem dX11_fewestOf_0 : decode cX11_fewestOf 0 = .ok (.aload_n 0, 1) := by decide +kernel
theorem dX11_fewestOf_1 : decode cX11_fewestOf 1 = .ok (.getfield 66, 3) := by decide +kernel
theorem dX11_fewestOf_4 : decode cX11_fewestOf 4 = .ok (.aload_n 0, 1) := by decide +kernel
theorem dX11_fewestOf_5 : decode cX11_fewestOf 5 = .ok (.getfield 26, 3) := by decide +kernel
theorem dX11_fewestOf_8 : decode cX11_fewestOf 8 = .ok (.getfield 162, 3) := by decide +kernel
theorem dX11_fewestOf_11 : decode cX11_fewestOf 11 = .ok (.aload_n 0, 1) := by decide +kernel
theorem dX11_fewestOf_12 : decode cX11_fewestOf 12 = .ok (.getfield 26, 3) := by decide +kernel
theorem dX11_fewestOf_15 : decode cX11_fewestOf 15 = .ok (.getfield 224, 3) := by decide +kernel
theorem dX11_fewestOf_18 : decode cX11_fewestOf 18 = .ok (.iload_n 1, 1) := by decide +kernel
theorem dX11_fewestOf_19 : decode cX11_fewestOf 19 = .ok (.invokevirtual 230, 3) := by decide +kernel
theorem dX11_fewestOf_22 : decode cX11_fewestOf 22 = .ok (.aload_n 0, 1) := by decide +kernel
theorem dX11_fewestOf_23 : decode cX11_fewestOf 23 = .ok (.getfield 66, 3) := by decide +kernel
theorem dX11_fewestOf_26 : decode cX11_fewestOf 26 = .ok (.aload_n 0, 1) := by decide +kernel
theorem dX11_fewestOf_27 : decode cX11_fewestOf 27 = .ok (.getfield 26, 3) := by decide +kernel
theorem dX11_fewestOf_30 : decode cX11_fewestOf 30 = .ok (.invokevirtual 216, 3) := by decide +kernel
theorem dX11_fewestOf_33 : decode cX11_fewestOf 33 = .ok (.iconst 0, 1) := by decide +kernel
theorem dX11_fewestOf_34 : decode cX11_fewestOf 34 = .ok (.invokevirtual 234, 3) := by decide +kernel
theorem dX11_fewestOf_37 : decode cX11_fewestOf 37 = .ok (.ireturn, 1) := by decide +kernel
theorem dX11_savesByHole_0 : decode cX11_savesByHole 0 = .ok (.aload_n 0, 1) := by decide +kernel
theorem dX11_savesByHole_1 : decode cX11_savesByHole 1 = .ok (.getfield 66, 3) := by decide +kernel
theorem dX11_savesByHole_4 : decode cX11_savesByHole 4 = .ok (.aload_n 0, 1) := by decide +kernel
theorem dX11_savesByHole_5 : decode cX11_savesByHole 5 = .ok (.getfield 26, 3) := by decide +kernel
theorem dX11_savesByHole_8 : decode cX11_savesByHole 8 = .ok (.getfield 162, 3) := by decide +kernel
theorem dX11_savesByHole_11 : decode cX11_savesByHole 11 = .ok (.aload_n 0, 1) := by decide +kernel
theorem dX11_savesByHole_12 : decode cX11_savesByHole 12 = .ok (.getfield 26, 3) := by decide +kernel
theorem dX11_savesByHole_15 : decode cX11_savesByHole 15 = .ok (.iload_n 1, 1) := by decide +kernel
theorem dX11_savesByHole_16 : decode cX11_savesByHole 16 = .ok (.invokevirtual 440, 3) := by decide +kernel
theorem dX11_savesByHole_19 : decode cX11_savesByHole 19 = .ok (.aload_n 0, 1) := by decide +kernel
theorem dX11_savesByHole_20 : decode cX11_savesByHole 20 = .ok (.getfield 26, 3) := by decide +kernel
theorem dX11_savesByHole_23 : decode cX11_savesByHole 23 = .ok (.invokevirtual 216, 3) := by decide +kernel
theorem dX11_savesByHole_26 : decode cX11_savesByHole 26 = .ok (.invokevirtual 230, 3) := by decide +kernel
theorem dX11_savesByHole_29 : decode cX11_savesByHole 29 = .ok (.aload_n 0, 1) := by decide +kernel
theorem dX11_savesByHole_30 : decode cX11_savesByHole 30 = .ok (.getfield 66, 3) := by decide +kernel
theorem dX11_savesByHole_33 : decode cX11_savesByHole 33 = .ok (.aload_n 0, 1) := by decide +kernel
theorem dX11_savesByHole_34 : decode cX11_savesByHole 34 = .ok (.getfield 26, 3) := by decide +kernel
theorem dX11_savesByHole_37 : decode cX11_savesByHole 37 = .ok (.invokevirtual 216, 3) := by decide +kernel
theorem dX11_savesByHole_40 : decode cX11_savesByHole 40 = .ok (.iconst 0, 1) := by decide +kernel
theorem dX11_savesByHole_41 : decode cX11_savesByHole 41 = .ok (.invokevirtual 234, 3) := by decide +kernel
theorem dX11_savesByHole_44 : decode cX11_savesByHole 44 = .ok (.istore_n 3, 1) := by decide +kernel
theorem dX11_savesByHole_45 : decode cX11_savesByHole 45 = .ok (.iload_n 3, 1) := by decide +kernel
theorem dX11_savesByHole_46 : decode cX11_savesByHole 46 = .ok (.iconst (-1), 1) := by decide +kernel
theorem dX11_savesByHole_47 : decode cX11_savesByHole 47 = .ok (.if_icmp .ne 5, 3) := by decide +kernel
theorem dX11_savesByHole_50 : decode cX11_savesByHole 50 = .ok (.iconst 0, 1) := by decide +kernel
theorem dX11_savesByHole_51 : decode cX11_savesByHole 51 = .ok (.ireturn, 1) := by decide +kernel
theorem dX11_savesByHole_52 : decode cX11_savesByHole 52 = .ok (.iload_n 2, 1) := by decide +kernel
theorem dX11_savesByHole_53 : decode cX11_savesByHole 53 = .ok (.iconst (-1), 1) := by decide +kernel
theorem dX11_savesByHole_54 : decode cX11_savesByHole 54 = .ok (.if_icmp .ne 6, 3) := by decide +kernel
theorem dX11_savesByHole_57 : decode cX11_savesByHole 57 = .ok (.bipush 100, 2) := by decide +kernel
theorem dX11_savesByHole_59 : decode cX11_savesByHole 59 = .ok (.ireturn, 1) := by decide +kernel
theorem dX11_savesByHole_60 : decode cX11_savesByHole 60 = .ok (.iload_n 2, 1) := by decide +kernel
theorem dX11_savesByHole_61 : decode cX11_savesByHole 61 = .ok (.invokestatic 205, 3) := by decide +kernel
theorem dX11_savesByHole_64 : decode cX11_savesByHole 64 = .ok (.iload_n 3, 1) := by decide +kernel
theorem dX11_savesByHole_65 : decode cX11_savesByHole 65 = .ok (.invokestatic 205, 3) := by decide +kernel
theorem dX11_savesByHole_68 : decode cX11_savesByHole 68 = .ok (.isub, 1) := by decide +kernel
theorem dX11_savesByHole_69 : decode cX11_savesByHole 69 = .ok (.ireturn, 1) := by decide +kernel
theorem dX11_lampsByRule_0 : decode cX11_lampsByRule 0 = .ok (.lconst 0, 1) := by decide +kernel
theorem dX11_lampsByRule_1 : decode cX11_lampsByRule 1 = .ok (.lstore_n 3, 1) := by decide +kernel
theorem dX11_lampsByRule_2 : decode cX11_lampsByRule 2 = .ok (.iload_n 1, 1) := by decide +kernel
theorem dX11_lampsByRule_3 : decode cX11_lampsByRule 3 = .ok (.ifCond .le 29, 3) := by decide +kernel
theorem dX11_lampsByRule_6 : decode cX11_lampsByRule 6 = .ok (.iconst 0, 1) := by decide +kernel
theorem dX11_lampsByRule_7 : decode cX11_lampsByRule 7 = .ok (.istore 5, 2) := by decide +kernel
theorem dX11_lampsByRule_9 : decode cX11_lampsByRule 9 = .ok (.iload 5, 2) := by decide +kernel
theorem dX11_lampsByRule_11 : decode cX11_lampsByRule 11 = .ok (.iload_n 0, 1) := by decide +kernel
theorem dX11_lampsByRule_12 : decode cX11_lampsByRule 12 = .ok (.if_icmp .ge 20, 3) := by decide +kernel
theorem dX11_lampsByRule_15 : decode cX11_lampsByRule 15 = .ok (.lload_n 3, 1) := by decide +kernel
theorem dX11_lampsByRule_16 : decode cX11_lampsByRule 16 = .ok (.iload_n 2, 1) := by decide +kernel
theorem dX11_lampsByRule_17 : decode cX11_lampsByRule 17 = .ok (.i2l, 1) := by decide +kernel
theorem dX11_lampsByRule_18 : decode cX11_lampsByRule 18 = .ok (.iload 5, 2) := by decide +kernel
theorem dX11_lampsByRule_20 : decode cX11_lampsByRule 20 = .ok (.lshl, 1) := by decide +kernel
theorem dX11_lampsByRule_21 : decode cX11_lampsByRule 21 = .ok (.lor, 1) := by decide +kernel
theorem dX11_lampsByRule_22 : decode cX11_lampsByRule 22 = .ok (.lstore_n 3, 1) := by decide +kernel
theorem dX11_lampsByRule_23 : decode cX11_lampsByRule 23 = .ok (.iload 5, 2) := by decide +kernel
theorem dX11_lampsByRule_25 : decode cX11_lampsByRule 25 = .ok (.iload_n 1, 1) := by decide +kernel
theorem dX11_lampsByRule_26 : decode cX11_lampsByRule 26 = .ok (.iadd, 1) := by decide +kernel
theorem dX11_lampsByRule_27 : decode cX11_lampsByRule 27 = .ok (.istore 5, 2) := by decide +kernel
theorem dX11_lampsByRule_29 : decode cX11_lampsByRule 29 = .ok (.goto (-20), 3) := by decide +kernel
theorem dX11_lampsByRule_32 : decode cX11_lampsByRule 32 = .ok (.lload_n 3, 1) := by decide +kernel
theorem dX11_lampsByRule_33 : decode cX11_lampsByRule 33 = .ok (.lconst 1, 1) := by decide +kernel
theorem dX11_lampsByRule_34 : decode cX11_lampsByRule 34 = .ok (.iload_n 0, 1) := by decide +kernel
theorem dX11_lampsByRule_35 : decode cX11_lampsByRule 35 = .ok (.lshl, 1) := by decide +kernel
theorem dX11_lampsByRule_36 : decode cX11_lampsByRule 36 = .ok (.lconst 1, 1) := by decide +kernel
theorem dX11_lampsByRule_37 : decode cX11_lampsByRule 37 = .ok (.lsub, 1) := by decide +kernel
theorem dX11_lampsByRule_38 : decode cX11_lampsByRule 38 = .ok (.land, 1) := by decide +kernel
theorem dX11_lampsByRule_39 : decode cX11_lampsByRule 39 = .ok (.lreturn, 1) := by decide +kernel
theorem dX11_unlitBy_0 : decode cX11_unlitBy 0 = .ok (.lload_n 0, 1) := by decide +kernel
theorem dX11_unlitBy_1 : decode cX11_unlitBy 1 = .ok (.iconst 1, 1) := by decide +kernel
theorem dX11_unlitBy_2 : decode cX11_unlitBy 2 = .ok (.lshl, 1) := by decide +kernel
theorem dX11_unlitBy_3 : decode cX11_unlitBy 3 = .ok (.lload_n 0, 1) := by decide +kernel
theorem dX11_unlitBy_4 : decode cX11_unlitBy 4 = .ok (.iconst 1, 1) := by decide +kernel
theorem dX11_unlitBy_5 : decode cX11_unlitBy 5 = .ok (.lushr, 1) := by decide +kernel
theorem dX11_unlitBy_6 : decode cX11_unlitBy 6 = .ok (.lor, 1) := by decide +kernel
theorem dX11_unlitBy_7 : decode cX11_unlitBy 7 = .ok (.lstore 4, 2) := by decide +kernel
theorem dX11_unlitBy_9 : decode cX11_unlitBy 9 = .ok (.iload_n 3, 1) := by decide +kernel
theorem dX11_unlitBy_10 : decode cX11_unlitBy 10 = .ok (.ifCond .eq 21, 3) := by decide +kernel
theorem dX11_unlitBy_13 : decode cX11_unlitBy 13 = .ok (.lload 4, 2) := by decide +kernel
theorem dX11_unlitBy_15 : decode cX11_unlitBy 15 = .ok (.lload_n 0, 1) := by decide +kernel
theorem dX11_unlitBy_16 : decode cX11_unlitBy 16 = .ok (.iload_n 2, 1) := by decide +kernel
theorem dX11_unlitBy_17 : decode cX11_unlitBy 17 = .ok (.iconst 1, 1) := by decide +kernel
theorem dX11_unlitBy_18 : decode cX11_unlitBy 18 = .ok (.isub, 1) := by decide +kernel
theorem dX11_unlitBy_19 : decode cX11_unlitBy 19 = .ok (.lushr, 1) := by decide +kernel
theorem dX11_unlitBy_20 : decode cX11_unlitBy 20 = .ok (.lload_n 0, 1) := by decide +kernel
theorem dX11_unlitBy_21 : decode cX11_unlitBy 21 = .ok (.lconst 1, 1) := by decide +kernel
theorem dX11_unlitBy_22 : decode cX11_unlitBy 22 = .ok (.land, 1) := by decide +kernel
theorem dX11_unlitBy_23 : decode cX11_unlitBy 23 = .ok (.iload_n 2, 1) := by decide +kernel
theorem dX11_unlitBy_24 : decode cX11_unlitBy 24 = .ok (.iconst 1, 1) := by decide +kernel
theorem dX11_unlitBy_25 : decode cX11_unlitBy 25 = .ok (.isub, 1) := by decide +kernel
theorem dX11_unlitBy_26 : decode cX11_unlitBy 26 = .ok (.lshl, 1) := by decide +kernel
theorem dX11_unlitBy_27 : decode cX11_unlitBy 27 = .ok (.lor, 1) := by decide +kernel
theorem dX11_unlitBy_28 : decode cX11_unlitBy 28 = .ok (.lor, 1) := by decide +kernel
theorem dX11_unlitBy_29 : decode cX11_unlitBy 29 = .ok (.lstore 4, 2) := by decide +kernel
theorem dX11_unlitBy_31 : decode cX11_unlitBy 31 = .ok (.lload 4, 2) := by decide +kernel
theorem dX11_unlitBy_33 : decode cX11_unlitBy 33 = .ok (.ldc2_w 394, 3) := by decide +kernel
theorem dX11_unlitBy_36 : decode cX11_unlitBy 36 = .ok (.lxor, 1) := by decide +kernel
theorem dX11_unlitBy_37 : decode cX11_unlitBy 37 = .ok (.lconst 1, 1) := by decide +kernel
theorem dX11_unlitBy_38 : decode cX11_unlitBy 38 = .ok (.iload_n 2, 1) := by decide +kernel
theorem dX11_unlitBy_39 : decode cX11_unlitBy 39 = .ok (.lshl, 1) := by decide +kernel
theorem dX11_unlitBy_40 : decode cX11_unlitBy 40 = .ok (.lconst 1, 1) := by decide +kernel
theorem dX11_unlitBy_41 : decode cX11_unlitBy 41 = .ok (.lsub, 1) := by decide +kernel
theorem dX11_unlitBy_42 : decode cX11_unlitBy 42 = .ok (.land, 1) := by decide +kernel
theorem dX11_unlitBy_43 : decode cX11_unlitBy 43 = .ok (.lreturn, 1) := by decide +kernel
theorem dX11_lowest_0 : decode cX11_lowest 0 = .ok (.iload_n 0, 1) := by decide +kernel
theorem dX11_lowest_1 : decode cX11_lowest 1 = .ok (.iload_n 0, 1) := by decide +kernel
theorem dX11_lowest_2 : decode cX11_lowest 2 = .ok (.ineg, 1) := by decide +kernel
theorem dX11_lowest_3 : decode cX11_lowest 3 = .ok (.iand, 1) := by decide +kernel
theorem dX11_lowest_4 : decode cX11_lowest 4 = .ok (.iconst 1, 1) := by decide +kernel
theorem dX11_lowest_5 : decode cX11_lowest 5 = .ok (.isub, 1) := by decide +kernel
theorem dX11_lowest_6 : decode cX11_lowest 6 = .ok (.invokestatic 205, 3) := by decide +kernel
theorem dX11_lowest_9 : decode cX11_lowest 9 = .ok (.ireturn, 1) := by decide +kernel
theorem dX11_factorial_0 : decode cX11_factorial 0 = .ok (.lconst 1, 1) := by decide +kernel
theorem dX11_factorial_1 : decode cX11_factorial 1 = .ok (.lstore_n 1, 1) := by decide +kernel
theorem dX11_factorial_2 : decode cX11_factorial 2 = .ok (.iconst 2, 1) := by decide +kernel
theorem dX11_factorial_3 : decode cX11_factorial 3 = .ok (.istore_n 3, 1) := by decide +kernel
theorem dX11_factorial_4 : decode cX11_factorial 4 = .ok (.iload_n 3, 1) := by decide +kernel
theorem dX11_factorial_5 : decode cX11_factorial 5 = .ok (.iload_n 0, 1) := by decide +kernel
theorem dX11_factorial_6 : decode cX11_factorial 6 = .ok (.if_icmp .gt 14, 3) := by decide +kernel
theorem dX11_factorial_9 : decode cX11_factorial 9 = .ok (.lload_n 1, 1) := by decide +kernel
theorem dX11_factorial_10 : decode cX11_factorial 10 = .ok (.iload_n 3, 1) := by decide +kernel
theorem dX11_factorial_11 : decode cX11_factorial 11 = .ok (.i2l, 1) := by decide +kernel
theorem dX11_factorial_12 : decode cX11_factorial 12 = .ok (.lmul, 1) := by decide +kernel
theorem dX11_factorial_13 : decode cX11_factorial 13 = .ok (.lstore_n 1, 1) := by decide +kernel
theorem dX11_factorial_14 : decode cX11_factorial 14 = .ok (.iinc 3 1, 3) := by decide +kernel
theorem dX11_factorial_17 : decode cX11_factorial 17 = .ok (.goto (-13), 3) := by decide +kernel
theorem dX11_factorial_20 : decode cX11_factorial 20 = .ok (.lload_n 1, 1) := by decide +kernel
theorem dX11_factorial_21 : decode cX11_factorial 21 = .ok (.lreturn, 1) := by decide +kernel
theorem dX11_commonDivisor_0 : decode cX11_commonDivisor 0 = .ok (.lload_n 0, 1) := by decide +kernel
theorem dX11_commonDivisor_1 : decode cX11_commonDivisor 1 = .ok (.lstore 4, 2) := by decide +kernel
theorem dX11_commonDivisor_3 : decode cX11_commonDivisor 3 = .ok (.lload_n 2, 1) := by decide +kernel
theorem dX11_commonDivisor_4 : decode cX11_commonDivisor 4 = .ok (.lstore 6, 2) := by decide +kernel
theorem dX11_commonDivisor_6 : decode cX11_commonDivisor 6 = .ok (.iconst 0, 1) := by decide +kernel
theorem dX11_commonDivisor_7 : decode cX11_commonDivisor 7 = .ok (.istore 8, 2) := by decide +kernel
theorem dX11_commonDivisor_9 : decode cX11_commonDivisor 9 = .ok (.iload 8, 2) := by decide +kernel
theorem dX11_commonDivisor_11 : decode cX11_commonDivisor 11 = .ok (.bipush 100, 2) := by decide +kernel
theorem dX11_commonDivisor_13 : decode cX11_commonDivisor 13 = .ok (.if_icmp .ge 31, 3) := by decide +kernel
theorem dX11_commonDivisor_16 : decode cX11_commonDivisor 16 = .ok (.lload 6, 2) := by decide +kernel
theorem dX11_commonDivisor_18 : decode cX11_commonDivisor 18 = .ok (.lconst 0, 1) := by decide +kernel
theorem dX11_commonDivisor_19 : decode cX11_commonDivisor 19 = .ok (.lcmp, 1) := by decide +kernel
theorem dX11_commonDivisor_20 : decode cX11_commonDivisor 20 = .ok (.ifCond .eq 24, 3) := by decide +kernel
theorem dX11_commonDivisor_23 : decode cX11_commonDivisor 23 = .ok (.lload 4, 2) := by decide +kernel
theorem dX11_commonDivisor_25 : decode cX11_commonDivisor 25 = .ok (.lload 6, 2) := by decide +kernel
theorem dX11_commonDivisor_27 : decode cX11_commonDivisor 27 = .ok (.lrem, 1) := by decide +kernel
theorem dX11_commonDivisor_28 : decode cX11_commonDivisor 28 = .ok (.lstore 9, 2) := by decide +kernel
theorem dX11_commonDivisor_30 : decode cX11_commonDivisor 30 = .ok (.lload 6, 2) := by decide +kernel
theorem dX11_commonDivisor_32 : decode cX11_commonDivisor 32 = .ok (.lstore 4, 2) := by decide +kernel
theorem dX11_commonDivisor_34 : decode cX11_commonDivisor 34 = .ok (.lload 9, 2) := by decide +kernel
theorem dX11_commonDivisor_36 : decode cX11_commonDivisor 36 = .ok (.lstore 6, 2) := by decide +kernel
theorem dX11_commonDivisor_38 : decode cX11_commonDivisor 38 = .ok (.iinc 8 1, 3) := by decide +kernel
theorem dX11_commonDivisor_41 : decode cX11_commonDivisor 41 = .ok (.goto (-32), 3) := by decide +kernel
theorem dX11_commonDivisor_44 : decode cX11_commonDivisor 44 = .ok (.lload 4, 2) := by decide +kernel
theorem dX11_commonDivisor_46 : decode cX11_commonDivisor 46 = .ok (.lreturn, 1) := by decide +kernel
theorem dX12_init_0 : decode cX12_init 0 = .ok (.aload_n 0, 1) := by decide +kernel
theorem dX12_init_1 : decode cX12_init 1 = .ok (.invokespecial 1, 3) := by decide +kernel
theorem dX12_init_4 : decode cX12_init 4 = .ok (.aload_n 0, 1) := by decide +kernel
theorem dX12_init_5 : decode cX12_init 5 = .ok (.sipush 480, 3) := by decide +kernel
theorem dX12_init_8 : decode cX12_init 8 = .ok (.newarray .int, 2) := by decide +kernel
theorem dX12_init_10 : decode cX12_init 10 = .ok (.putfield 9, 3) := by decide +kernel
theorem dX12_init_13 : decode cX12_init 13 = .ok (.aload_n 0, 1) := by decide +kernel
theorem dX12_init_14 : decode cX12_init 14 = .ok (.sipush 1440, 3) := by decide +kernel
theorem dX12_init_17 : decode cX12_init 17 = .ok (.newarray .int, 2) := by decide +kernel
theorem dX12_init_19 : decode cX12_init 19 = .ok (.putfield 13, 3) := by decide +kernel
theorem dX12_init_22 : decode cX12_init 22 = .ok (.aload_n 0, 1) := by decide +kernel
theorem dX12_init_23 : decode cX12_init 23 = .ok (.sipush 480, 3) := by decide +kernel
theorem dX12_init_26 : decode cX12_init 26 = .ok (.newarray .int, 2) := by decide +kernel
theorem dX12_init_28 : decode cX12_init 28 = .ok (.putfield 16, 3) := by decide +kernel
theorem dX12_init_31 : decode cX12_init 31 = .ok (.aload_n 0, 1) := by decide +kernel
theorem dX12_init_32 : decode cX12_init 32 = .ok (.iconst 3, 1) := by decide +kernel
theorem dX12_init_33 : decode cX12_init 33 = .ok (.newarray .boolean, 2) := by decide +kernel
theorem dX12_init_35 : decode cX12_init 35 = .ok (.putfield 19, 3) := by decide +kernel
theorem dX12_init_38 : decode cX12_init 38 = .ok (.aload_n 0, 1) := by decide +kernel
theorem dX12_init_39 : decode cX12_init 39 = .ok (.sipush 800, 3) := by decide +kernel
theorem dX12_init_42 : decode cX12_init 42 = .ok (.newarray .int, 2) := by decide +kernel
theorem dX12_init_44 : decode cX12_init 44 = .ok (.putfield 23, 3) := by decide +kernel
theorem dX12_init_47 : decode cX12_init 47 = .ok (.aload_n 0, 1) := by decide +kernel
theorem dX12_init_48 : decode cX12_init 48 = .ok (.iconst (-1), 1) := by decide +kernel
theorem dX12_init_49 : decode cX12_init 49 = .ok (.putfield 26, 3) := by decide +kernel
theorem dX12_init_52 : decode cX12_init 52 = .ok (.aload_n 0, 1) := by decide +kernel
theorem dX12_init_53 : decode cX12_init 53 = .ok (.bipush 16, 2) := by decide +kernel
theorem dX12_init_55 : decode cX12_init 55 = .ok (.newarray .int, 2) := by decide +kernel
theorem dX12_init_57 : decode cX12_init 57 = .ok (.putfield 30, 3) := by decide +kernel
theorem dX12_init_60 : decode cX12_init 60 = .ok (.aload_n 0, 1) := by decide +kernel
theorem dX12_init_61 : decode cX12_init 61 = .ok (.bipush 16, 2) := by decide +kernel
theorem dX12_init_63 : decode cX12_init 63 = .ok (.newarray .int, 2) := by decide +kernel
theorem dX12_init_65 : decode cX12_init 65 = .ok (.putfield 33, 3) := by decide +kernel
theorem dX12_init_68 : decode cX12_init 68 = .ok (.aload_n 0, 1) := by decide +kernel
theorem dX12_init_69 : decode cX12_init 69 = .ok (.bipush 8, 2) := by decide +kernel
theorem dX12_init_71 : decode cX12_init 71 = .ok (.newarray .int, 2) := by decide +kernel
theorem dX12_init_73 : decode cX12_init 73 = .ok (.putfield 36, 3) := by decide +kernel
theorem dX12_init_76 : decode cX12_init 76 = .ok (.aload_n 0, 1) := by decide +kernel
theorem dX12_init_77 : decode cX12_init 77 = .ok (.bipush 8, 2) := by decide +kernel
theorem dX12_init_79 : decode cX12_init 79 = .ok (.newarray .int, 2) := by decide +kernel
theorem dX12_init_81 : decode cX12_init 81 = .ok (.putfield 39, 3) := by decide +kernel
theorem dX12_init_84 : decode cX12_init 84 = .ok (.aload_n 0, 1) := by decide +kernel
theorem dX12_init_85 : decode cX12_init 85 = .ok (.bipush 16, 2) := by decide +kernel
theorem dX12_init_87 : decode cX12_init 87 = .ok (.newarray .int, 2) := by decide +kernel
theorem dX12_init_89 : decode cX12_init 89 = .ok (.putfield 42, 3) := by decide +kernel
theorem dX12_init_92 : decode cX12_init 92 = .ok (.aload_n 0, 1) := by decide +kernel
theorem dX12_init_93 : decode cX12_init 93 = .ok (.sipush 256, 3) := by decide +kernel
theorem dX12_init_96 : decode cX12_init 96 = .ok (.newarray .int, 2) := by decide +kernel
theorem dX12_init_98 : decode cX12_init 98 = .ok (.putfield 45, 3) := by decide +kernel
theorem dX12_init_101 : decode cX12_init 101 = .ok (.aload_n 0, 1) := by decide +kernel
theorem dX12_init_102 : decode cX12_init 102 = .ok (.sipush 6144, 3) := by decide +kernel
theorem dX12_init_105 : decode cX12_init 105 = .ok (.newarray .int, 2) := by decide +kernel
theorem dX12_init_107 : decode cX12_init 107 = .ok (.putfield 48, 3) := by decide +kernel
theorem dX12_init_110 : decode cX12_init 110 = .ok (.aload_n 0, 1) := by decide +kernel
theorem dX12_init_111 : decode cX12_init 111 = .ok (.sipush 1024, 3) := by decide +kernel
theorem dX12_init_114 : decode cX12_init 114 = .ok (.newarray .int, 2) := by decide +kernel
theorem dX12_init_116 : decode cX12_init 116 = .ok (.putfield 51, 3) := by decide +kernel
theorem dX12_init_119 : decode cX12_init 119 = .ok (.aload_n 0, 1) := by decide +kernel
theorem dX12_init_120 : decode cX12_init 120 = .ok (.ldc 54, 2) := by decide +kernel
theorem dX12_init_122 : decode cX12_init 122 = .ok (.newarray .int, 2) := by decide +kernel
theorem dX12_init_124 : decode cX12_init 124 = .ok (.putfield 55, 3) := by decide +kernel
theorem dX12_init_127 : decode cX12_init 127 = .ok (.aload_n 0, 1) := by decide +kernel
theorem dX12_init_128 : decode cX12_init 128 = .ok (.ldc 54, 2) := by decide +kernel
theorem dX12_init_130 : decode cX12_init 130 = .ok (.newarray .int, 2) := by decide +kernel
theorem dX12_init_132 : decode cX12_init 132 = .ok (.putfield 58, 3) := by decide +kernel
theorem dX12_init_135 : decode cX12_init 135 = .ok (.aload_n 0, 1) := by decide +kernel
theorem dX12_init_136 : decode cX12_init 136 = .ok (.iconst 4, 1) := by decide +kernel
theorem dX12_init_137 : decode cX12_init 137 = .ok (.newarray .int, 2) := by decide +kernel
theorem dX12_init_139 : decode cX12_init 139 = .ok (.dup, 1) := by decide +kernel
theorem dX12_init_140 : decode cX12_init 140 = .ok (.iconst 0, 1) := by decide +kernel
theorem dX12_init_141 : decode cX12_init 141 = .ok (.iconst (-1), 1) := by decide +kernel
theorem dX12_init_142 : decode cX12_init 142 = .ok (.iastore, 1) := by decide +kernel
theorem dX12_init_143 : decode cX12_init 143 = .ok (.dup, 1) := by decide +kernel
theorem dX12_init_144 : decode cX12_init 144 = .ok (.iconst 1, 1) := by decide +kernel
theorem dX12_init_145 : decode cX12_init 145 = .ok (.iconst (-1), 1) := by decide +kernel
theorem dX12_init_146 : decode cX12_init 146 = .ok (.iastore, 1) := by decide +kernel
theorem dX12_init_147 : decode cX12_init 147 = .ok (.dup, 1) := by decide +kernel
theorem dX12_init_148 : decode cX12_init 148 = .ok (.iconst 2, 1) := by decide +kernel
theorem dX12_init_149 : decode cX12_init 149 = .ok (.iconst (-1), 1) := by decide +kernel
theorem dX12_init_150 : decode cX12_init 150 = .ok (.iastore, 1) := by decide +kernel
theorem dX12_init_151 : decode cX12_init 151 = .ok (.dup, 1) := by decide +kernel
theorem dX12_init_152 : decode cX12_init 152 = .ok (.iconst 3, 1) := by decide +kernel
theorem dX12_init_153 : decode cX12_init 153 = .ok (.iconst (-1), 1) := by decide +kernel
theorem dX12_init_154 : decode cX12_init 154 = .ok (.iastore, 1) := by decide +kernel
theorem dX12_init_155 : decode cX12_init 155 = .ok (.putfield 61, 3) := by decide +kernel
theorem dX12_init_158 : decode cX12_init 158 = .ok (.aload_n 0, 1) := by decide +kernel
theorem dX12_init_159 : decode cX12_init 159 = .ok (.iconst 4, 1) := by decide +kernel
theorem dX12_init_160 : decode cX12_init 160 = .ok (.newarray .int, 2) := by decide +kernel
theorem dX12_init_162 : decode cX12_init 162 = .ok (.putfield 64, 3) := by decide +kernel
theorem dX12_init_165 : decode cX12_init 165 = .ok (.aload_n 0, 1) := by decide +kernel
theorem dX12_init_166 : decode cX12_init 166 = .ok (.sipush 160, 3) := by decide +kernel
theorem dX12_init_169 : decode cX12_init 169 = .ok (.newarray .long, 2) := by decide +kernel
theorem dX12_init_171 : decode cX12_init 171 = .ok (.putfield 67, 3) := by decide +kernel
theorem dX12_init_174 : decode cX12_init 174 = .ok (.aload_n 0, 1) := by decide +kernel
theorem dX12_init_175 : decode cX12_init 175 = .ok (.getfield 9, 3) := by decide +kernel
theorem dX12_init_178 : decode cX12_init 178 = .ok (.invokestatic 71, 3) := by decide +kernel
theorem dX12_init_181 : decode cX12_init 181 = .ok (.return_, 1) := by decide +kernel
theorem dX12_begins_0 : decode cX12_begins 0 = .ok (.iconst 0, 1) := by decide +kernel
theorem dX12_begins_1 : decode cX12_begins 1 = .ok (.istore_n 1, 1) := by decide +kernel
theorem dX12_begins_2 : decode cX12_begins 2 = .ok (.iload_n 1, 1) := by decide +kernel
theorem dX12_begins_3 : decode cX12_begins 3 = .ok (.sipush 480, 3) := by decide +kernel
theorem dX12_begins_6 : decode cX12_begins 6 = .ok (.if_icmp .ge 13, 3) := by decide +kernel
theorem dX12_begins_9 : decode cX12_begins 9 = .ok (.aload_n 0, 1) := by decide +kernel
theorem dX12_begins_10 : decode cX12_begins 10 = .ok (.iload_n 1, 1) := by decide +kernel
theorem dX12_begins_11 : decode cX12_begins 11 = .ok (.iconst 0, 1) := by decide +kernel
theorem dX12_begins_12 : decode cX12_begins 12 = .ok (.iastore, 1) := by decide +kernel
theorem dX12_begins_13 : decode cX12_begins 13 = .ok (.iinc 1 1, 3) := by decide +kernel
theorem dX12_begins_16 : decode cX12_begins 16 = .ok (.goto (-14), 3) := by decide +kernel
theorem dX12_begins_19 : decode cX12_begins 19 = .ok (.aload_n 0, 1) := by decide +kernel
theorem dX12_begins_20 : decode cX12_begins 20 = .ok (.bipush 6, 2) := by decide +kernel
theorem dX12_begins_22 : decode cX12_begins 22 = .ok (.bipush 50, 2) := by decide +kernel
theorem dX12_begins_24 : decode cX12_begins 24 = .ok (.iastore, 1) := by decide +kernel
theorem dX12_begins_25 : decode cX12_begins 25 = .ok (.iconst 0, 1) := by decide +kernel
theorem dX12_begins_26 : decode cX12_begins 26 = .ok (.istore_n 1, 1) := by decide +kernel
theorem dX12_begins_27 : decode cX12_begins 27 = .ok (.iload_n 1, 1) := by decide +kernel
theorem dX12_begins_28 : decode cX12_begins 28 = .ok (.bipush 16, 2) := by decide +kernel
theorem dX12_begins_30 : decode cX12_begins 30 = .ok (.if_icmp .ge 28, 3) := by decide +kernel
theorem dX12_begins_33 : decode cX12_begins 33 = .ok (.aload_n 0, 1) := by decide +kernel
theorem dX12_begins_34 : decode cX12_begins 34 = .ok (.sipush 416, 3) := by decide +kernel
theorem dX12_begins_37 : decode cX12_begins 37 = .ok (.iload_n 1, 1) := by decide +kernel
theorem dX12_begins_38 : decode cX12_begins 38 = .ok (.iadd, 1) := by decide +kernel
theorem dX12_begins_39 : decode cX12_begins 39 = .ok (.bipush 10, 2) := by decide +kernel
theorem dX12_begins_41 : decode cX12_begins 41 = .ok (.iastore, 1) := by decide +kernel
theorem dX12_begins_42 : decode cX12_begins 42 = .ok (.aload_n 0, 1) := by decide +kernel
theorem dX12_begins_43 : decode cX12_begins 43 = .ok (.sipush 448, 3) := by decide +kernel
theorem dX12_begins_46 : decode cX12_begins 46 = .ok (.iconst 2, 1) := by decide +kernel
theorem dX12_begins_47 : decode cX12_begins 47 = .ok (.iload_n 1, 1) := by decide +kernel
theorem dX12_begins_48 : decode cX12_begins 48 = .ok (.imul, 1) := by decide +kernel
theorem dX12_begins_49 : decode cX12_begins 49 = .ok (.iadd, 1) := by decide +kernel
theorem dX12_begins_50 : decode cX12_begins 50 = .ok (.iconst (-1), 1) := by decide +kernel
theorem dX12_begins_51 : decode cX12_begins 51 = .ok (.iastore, 1) := by decide +kernel
theorem dX12_begins_52 : decode cX12_begins 52 = .ok (.iinc 1 1, 3) := by decide +kernel
theorem dX12_begins_55 : decode cX12_begins 55 = .ok (.goto (-28), 3) := by decide +kernel
theorem dX12_begins_58 : decode cX12_begins 58 = .ok (.return_, 1) := by decide +kernel
theorem dX12_thrown_0 : decode cX12_thrown 0 = .ok (.aload_n 0, 1) := by decide +kernel
theorem dX12_thrown_1 : decode cX12_thrown 1 = .ok (.getfield 75, 3) := by decide +kernel
theorem dX12_thrown_4 : decode cX12_thrown 4 = .ok (.ireturn, 1) := by decide +kernel
theorem dX12_fails_0 : decode cX12_fails 0 = .ok (.aload_n 0, 1) := by decide +kernel
theorem dX12_fails_1 : decode cX12_fails 1 = .ok (.iload_n 1, 1) := by decide +kernel
theorem dX12_fails_2 : decode cX12_fails 2 = .ok (.putfield 75, 3) := by decide +kernel
theorem dX12_fails_5 : decode cX12_fails 5 = .ok (.iconst 0, 1) := by decide +kernel
theorem dX12_fails_6 : decode cX12_fails 6 = .ok (.ireturn, 1) := by decide +kernel
theorem dX12_within_0 : decode cX12_within 0 = .ok (.lload_n 0, 1) := by decide +kernel
theorem dX12_within_1 : decode cX12_within 1 = .ok (.lload_n 2, 1) := by decide +kernel
theorem dX12_within_2 : decode cX12_within 2 = .ok (.lcmp, 1) := by decide +kernel
theorem dX12_within_3 : decode cX12_within 3 = .ok (.ifCond .lt 14, 3) := by decide +kernel
theorem dX12_within_6 : decode cX12_within 6 = .ok (.lload_n 0, 1) := by decide +kernel
theorem dX12_within_7 : decode cX12_within 7 = .ok (.lload 4, 2) := by decide +kernel
theorem dX12_within_9 : decode cX12_within 9 = .ok (.lcmp, 1) := by decide +kernel
theorem dX12_within_10 : decode cX12_within 10 = .ok (.ifCond .gt 7, 3) := by decide +kernel
theorem dX12_within_13 : decode cX12_within 13 = .ok (.iconst 1, 1) := by decide +kernel
theorem dX12_within_14 : decode cX12_within 14 = .ok (.goto 4, 3) := by decide +kernel
theorem dX12_within_17 : decode cX12_within 17 = .ok (.iconst 0, 1) := by decide +kernel
theorem dX12_within_18 : decode cX12_within 18 = .ok (.ireturn, 1) := by decide +kernel
theorem dX12_has_0 : decode cX12_has 0 = .ok (.iload_n 0, 1) := by decide +kernel
theorem dX12_has_1 : decode cX12_has 1 = .ok (.iload_n 1, 1) := by decide +kernel
theorem dX12_has_2 : decode cX12_has 2 = .ok (.ishr, 1) := by decide +kernel
theorem dX12_has_3 : decode cX12_has 3 = .ok (.iconst 1, 1) := by decide +kernel
theorem dX12_has_4 : decode cX12_has 4 = .ok (.iand, 1) := by decide +kernel
theorem dX12_has_5 : decode cX12_has 5 = .ok (.iconst 1, 1) := by decide +kernel
theorem dX12_has_6 : decode cX12_has 6 = .ok (.if_icmp .ne 7, 3) := by decide +kernel
theorem dX12_has_9 : decode cX12_has 9 = .ok (.iconst 1, 1) := by decide +kernel
theorem dX12_has_10 : decode cX12_has 10 = .ok (.goto 4, 3) := by decide +kernel
theorem dX12_has_13 : decode cX12_has 13 = .ok (.iconst 0, 1) := by decide +kernel
theorem dX12_has_14 : decode cX12_has 14 = .ok (.ireturn, 1) := by decide +kernel
theorem dX12_ones_0 : decode cX12_ones 0 = .ok (.iconst 0, 1) := by decide +kernel
theorem dX12_ones_1 : decode cX12_ones 1 = .ok (.istore_n 1, 1) := by decide +kernel
theorem dX12_ones_2 : decode cX12_ones 2 = .ok (.iload_n 0, 1) := by decide +kernel
theorem dX12_ones_3 : decode cX12_ones 3 = .ok (.istore_n 2, 1) := by decide +kernel
theorem dX12_ones_4 : decode cX12_ones 4 = .ok (.iload_n 2, 1) := by decide +kernel
theorem dX12_ones_5 : decode cX12_ones 5 = .ok (.ifCond .eq 15, 3) := by decide +kernel
theorem dX12_ones_8 : decode cX12_ones 8 = .ok (.iinc 1 1, 3) := by decide +kernel
theorem dX12_ones_11 : decode cX12_ones 11 = .ok (.iload_n 2, 1) := by decide +kernel
theorem dX12_ones_12 : decode cX12_ones 12 = .ok (.iload_n 2, 1) := by decide +kernel
theorem dX12_ones_13 : decode cX12_ones 13 = .ok (.iconst 1, 1) := by decide +kernel
theorem dX12_ones_14 : decode cX12_ones 14 = .ok (.isub, 1) := by decide +kernel
theorem dX12_ones_15 : decode cX12_ones 15 = .ok (.iand, 1) := by decide +kernel
theorem dX12_ones_16 : decode cX12_ones 16 = .ok (.istore_n 2, 1) := by decide +kernel
theorem dX12_ones_17 : decode cX12_ones 17 = .ok (.goto (-13), 3) := by decide +kernel
theorem dX12_ones_20 : decode cX12_ones 20 = .ok (.iload_n 1, 1) := by decide +kernel
theorem dX12_ones_21 : decode cX12_ones 21 = .ok (.ireturn, 1) := by decide +kernel
theorem dX12_feed_0 : decode cX12_feed 0 = .ok (.aload_n 0, 1) := by decide +kernel
theorem dX12_feed_1 : decode cX12_feed 1 = .ok (.iconst 0, 1) := by decide +kernel
theorem dX12_feed_2 : decode cX12_feed 2 = .ok (.putfield 75, 3) := by decide +kernel
theorem dX12_feed_5 : decode cX12_feed 5 = .ok (.aload_n 0, 1) := by decide +kernel
theorem dX12_feed_6 : decode cX12_feed 6 = .ok (.getfield 78, 3) := by decide +kernel
theorem dX12_feed_9 : decode cX12_feed 9 = .ok (.bipush 20, 2) := by decide +kernel
theorem dX12_feed_11 : decode cX12_feed 11 = .ok (.iadd, 1) := by decide +kernel
theorem dX12_feed_12 : decode cX12_feed 12 = .ok (.sipush 800, 3) := by decide +kernel
theorem dX12_feed_15 : decode cX12_feed 15 = .ok (.if_icmp .le 5, 3) := by decide +kernel
theorem dX12_feed_18 : decode cX12_feed 18 = .ok (.iconst (-1), 1) := by decide +kernel
theorem dX12_feed_19 : decode cX12_feed 19 = .ok (.ireturn, 1) := by decide +kernel
theorem dX12_feed_20 : decode cX12_feed 20 = .ok (.iconst 0, 1) := by decide +kernel
theorem dX12_feed_21 : decode cX12_feed 21 = .ok (.istore 6, 2) := by decide +kernel
theorem dX12_feed_23 : decode cX12_feed 23 = .ok (.iload 6, 2) := by decide +kernel
theorem dX12_feed_25 : decode cX12_feed 25 = .ok (.bipush 20, 2) := by decide +kernel
theorem dX12_feed_27 : decode cX12_feed 27 = .ok (.if_icmp .ge 93, 3) := by decide +kernel
theorem dX12_feed_30 : decode cX12_feed 30 = .ok (.iload 6, 2) := by decide +kernel
theorem dX12_feed_32 : decode cX12_feed 32 = .ok (.iconst 4, 1) := by decide +kernel
theorem dX12_feed_33 : decode cX12_feed 33 = .ok (.if_icmp .ge 7, 3) := by decide +kernel
theorem dX12_feed_36 : decode cX12_feed 36 = .ok (.iload_n 1, 1) := by decide +kernel
theorem dX12_feed_37 : decode cX12_feed 37 = .ok (.goto 39, 3) := by decide +kernel
theorem dX12_feed_40 : decode cX12_feed 40 = .ok (.iload 6, 2) := by decide +kernel
theorem dX12_feed_42 : decode cX12_feed 42 = .ok (.bipush 8, 2) := by decide +kernel
theorem dX12_feed_44 : decode cX12_feed 44 = .ok (.if_icmp .ge 7, 3) := by decide +kernel
theorem dX12_feed_47 : decode cX12_feed 47 = .ok (.iload_n 2, 1) := by decide +kernel
theorem dX12_feed_48 : decode cX12_feed 48 = .ok (.goto 28, 3) := by decide +kernel
theorem dX12_feed_51 : decode cX12_feed 51 = .ok (.iload 6, 2) := by decide +kernel
theorem dX12_feed_53 : decode cX12_feed 53 = .ok (.bipush 12, 2) := by decide +kernel
theorem dX12_feed_55 : decode cX12_feed 55 = .ok (.if_icmp .ge 7, 3) := by decide +kernel
theorem dX12_feed_58 : decode cX12_feed 58 = .ok (.iload_n 3, 1) := by decide +kernel
theorem dX12_feed_59 : decode cX12_feed 59 = .ok (.goto 17, 3) := by decide +kernel
theorem dX12_feed_62 : decode cX12_feed 62 = .ok (.iload 6, 2) := by decide +kernel
theorem dX12_feed_64 : decode cX12_feed 64 = .ok (.bipush 16, 2) := by decide +kernel
theorem dX12_feed_66 : decode cX12_feed 66 = .ok (.if_icmp .ge 8, 3) := by decide +kernel
theorem dX12_feed_69 : decode cX12_feed 69 = .ok (.iload 4, 2) := by decide +kernel
theorem dX12_feed_71 : decode cX12_feed 71 = .ok (.goto 5, 3) := by decide +kernel
theorem dX12_feed_74 : decode cX12_feed 74 = .ok (.iload 5, 2) := by decide +kernel
theorem dX12_feed_76 : decode cX12_feed 76 = .ok (.istore 7, 2) := by decide +kernel
theorem dX12_feed_78 : decode cX12_feed 78 = .ok (.aload_n 0, 1) := by decide +kernel
theorem dX12_feed_79 : decode cX12_feed 79 = .ok (.getfield 23, 3) := by decide +kernel
theorem dX12_feed_82 : decode cX12_feed 82 = .ok (.aload_n 0, 1) := by decide +kernel
theorem dX12_feed_83 : decode cX12_feed 83 = .ok (.getfield 78, 3) := by decide +kernel
theorem dX12_feed_86 : decode cX12_feed 86 = .ok (.iload 7, 2) := by decide +kernel
theorem dX12_feed_88 : decode cX12_feed 88 = .ok (.bipush 24, 2) := by decide +kernel
theorem dX12_feed_90 : decode cX12_feed 90 = .ok (.bipush 8, 2) := by decide +kernel
theorem dX12_feed_92 : decode cX12_feed 92 = .ok (.iload 6, 2) := by decide +kernel
theorem dX12_feed_94 : decode cX12_feed 94 = .ok (.iconst 3, 1) := by decide +kernel
theorem dX12_feed_95 : decode cX12_feed 95 = .ok (.iand, 1) := by decide +kernel
theorem dX12_feed_96 : decode cX12_feed 96 = .ok (.imul, 1) := by decide +kernel
theorem dX12_feed_97 : decode cX12_feed 97 = .ok (.isub, 1) := by decide +kernel
theorem dX12_feed_98 : decode cX12_feed 98 = .ok (.iushr, 1) := by decide +kernel
theorem dX12_feed_99 : decode cX12_feed 99 = .ok (.sipush 255, 3) := by decide +kernel
theorem dX12_feed_102 : decode cX12_feed 102 = .ok (.iand, 1) := by decide +kernel
theorem dX12_feed_103 : decode cX12_feed 103 = .ok (.iastore, 1) := by decide +kernel
theorem dX12_feed_104 : decode cX12_feed 104 = .ok (.aload_n 0, 1) := by decide +kernel
theorem dX12_feed_105 : decode cX12_feed 105 = .ok (.dup, 1) := by decide +kernel
theorem dX12_feed_106 : decode cX12_feed 106 = .ok (.getfield 78, 3) := by decide +kernel
theorem dX12_feed_109 : decode cX12_feed 109 = .ok (.iconst 1, 1) := by decide +kernel
theorem dX12_feed_110 : decode cX12_feed 110 = .ok (.iadd, 1) := by decide +kernel
theorem dX12_feed_111 : decode cX12_feed 111 = .ok (.putfield 78, 3) := by decide +kernel
theorem dX12_feed_114 : decode cX12_feed 114 = .ok (.iinc 6 1, 3) := by decide +kernel
theorem dX12_feed_117 : decode cX12_feed 117 = .ok (.goto (-94), 3) := by decide +kernel
theorem dX12_feed_120 : decode cX12_feed 120 = .ok (.aload_n 0, 1) := by decide +kernel
theorem dX12_feed_121 : decode cX12_feed 121 = .ok (.getfield 78, 3) := by decide +kernel
theorem dX12_feed_124 : decode cX12_feed 124 = .ok (.ireturn, 1) := by decide +kernel
theorem dX12_see_0 : decode cX12_see 0 = .ok (.iload_n 1, 1) := by decide +kernel
theorem dX12_see_1 : decode cX12_see 1 = .ok (.aload_n 0, 1) := by decide +kernel
theorem dX12_see_2 : decode cX12_see 2 = .ok (.getfield 81, 3) := by decide +kernel
theorem dX12_see_5 : decode cX12_see 5 = .ok (.if_icmp .ge 12, 3) := by decide +kernel
theorem dX12_see_8 : decode cX12_see 8 = .ok (.aload_n 0, 1) := by decide +kernel
theorem dX12_see_9 : decode cX12_see 9 = .ok (.getfield 23, 3) := by decide +kernel
theorem dX12_see_12 : decode cX12_see 12 = .ok (.iload_n 1, 1) := by decide +kernel
theorem dX12_see_13 : decode cX12_see 13 = .ok (.iaload, 1) := by decide +kernel
theorem dX12_see_14 : decode cX12_see 14 = .ok (.goto 4, 3) := by decide +kernel
theorem dX12_see_17 : decode cX12_see 17 = .ok (.iconst 0, 1) := by decide +kernel
theorem dX12_see_18 : decode cX12_see 18 = .ok (.ireturn, 1) := by decide +kernel
theorem dX12_isLetter_0 : decode cX12_isLetter 0 = .ok (.iload_n 0, 1) := by decide +kernel
theorem dX12_isLetter_1 : decode cX12_isLetter 1 = .ok (.bipush 97, 2) := by decide +kernel
theorem dX12_isLetter_3 : decode cX12_isLetter 3 = .ok (.if_icmp .lt 13, 3) := by decide +kernel
theorem dX12_isLetter_6 : decode cX12_isLetter 6 = .ok (.iload_n 0, 1) := by decide +kernel
theorem dX12_isLetter_7 : decode cX12_isLetter 7 = .ok (.bipush 122, 2) := by decide +kernel
theorem dX12_isLetter_9 : decode cX12_isLetter 9 = .ok (.if_icmp .gt 7, 3) := by decide +kernel
theorem dX12_isLetter_12 : decode cX12_isLetter 12 = .ok (.iconst 1, 1) := by decide +kernel
theorem dX12_isLetter_13 : decode cX12_isLetter 13 = .ok (.goto 4, 3) := by decide +kernel
theorem dX12_isLetter_16 : decode cX12_isLetter 16 = .ok (.iconst 0, 1) := by decide +kernel
theorem dX12_isLetter_17 : decode cX12_isLetter 17 = .ok (.ireturn, 1) := by decide +kernel
theorem dX12_isDigit_0 : decode cX12_isDigit 0 = .ok (.iload_n 0, 1) := by decide +kernel
theorem dX12_isDigit_1 : decode cX12_isDigit 1 = .ok (.bipush 48, 2) := by decide +kernel
theorem dX12_isDigit_3 : decode cX12_isDigit 3 = .ok (.if_icmp .lt 13, 3) := by decide +kernel
theorem dX12_isDigit_6 : decode cX12_isDigit 6 = .ok (.iload_n 0, 1) := by decide +kernel
theorem dX12_isDigit_7 : decode cX12_isDigit 7 = .ok (.bipush 57, 2) := by decide +kernel
theorem dX12_isDigit_9 : decode cX12_isDigit 9 = .ok (.if_icmp .gt 7, 3) := by decide +kernel
theorem dX12_isDigit_12 : decode cX12_isDigit 12 = .ok (.iconst 1, 1) := by decide +kernel
theorem dX12_isDigit_13 : decode cX12_isDigit 13 = .ok (.goto 4, 3) := by decide +kernel
theorem dX12_isDigit_16 : decode cX12_isDigit 16 = .ok (.iconst 0, 1) := by decide +kernel
theorem dX12_isDigit_17 : decode cX12_isDigit 17 = .ok (.ireturn, 1) := by decide +kernel
theorem dX12_reads_0 : decode cX12_reads 0 = .ok (.aload_n 0, 1) := by decide +kernel
theorem dX12_reads_1 : decode cX12_reads 1 = .ok (.getfield 84, 3) := by decide +kernel
theorem dX12_reads_4 : decode cX12_reads 4 = .ok (.aload_n 0, 1) := by decide +kernel
theorem dX12_reads_5 : decode cX12_reads 5 = .ok (.getfield 81, 3) := by decide +kernel
theorem dX12_reads_8 : decode cX12_reads 8 = .ok (.if_icmp .ge 44, 3) := by decide +kernel
theorem dX12_reads_11 : decode cX12_reads 11 = .ok (.aload_n 0, 1) := by decide +kernel
theorem dX12_reads_12 : decode cX12_reads 12 = .ok (.getfield 23, 3) := by decide +kernel
theorem dX12_reads_15 : decode cX12_reads 15 = .ok (.aload_n 0, 1) := by decide +kernel
theorem dX12_reads_16 : decode cX12_reads 16 = .ok (.getfield 84, 3) := by decide +kernel
theorem dX12_reads_19 : decode cX12_reads 19 = .ok (.iaload, 1) := by decide +kernel
theorem dX12_reads_20 : decode cX12_reads 20 = .ok (.bipush 32, 2) := by decide +kernel
theorem dX12_reads_22 : decode cX12_reads 22 = .ok (.if_icmp .eq 17, 3) := by decide +kernel
theorem dX12_reads_25 : decode cX12_reads 25 = .ok (.aload_n 0, 1) := by decide +kernel
theorem dX12_reads_26 : decode cX12_reads 26 = .ok (.getfield 23, 3) := by decide +kernel
theorem dX12_reads_29 : decode cX12_reads 29 = .ok (.aload_n 0, 1) := by decide +kernel
theorem dX12_reads_30 : decode cX12_reads 30 = .ok (.getfield 84, 3) := by decide +kernel
theorem dX12_reads_33 : decode cX12_reads 33 = .ok (.iaload, 1) := by decide +kernel
theorem dX12_reads_34 : decode cX12_reads 34 = .ok (.bipush 10, 2) := by decide +kernel
theorem dX12_reads_36 : decode cX12_reads 36 = .ok (.if_icmp .ne 16, 3) := by decide +kernel
theorem dX12_reads_39 : decode cX12_reads 39 = .ok (.aload_n 0, 1) := by decide +kernel
theorem dX12_reads_40 : decode cX12_reads 40 = .ok (.dup, 1) := by decide +kernel
theorem dX12_reads_41 : decode cX12_reads 41 = .ok (.getfield 84, 3) := by decide +kernel
theorem dX12_reads_44 : decode cX12_reads 44 = .ok (.iconst 1, 1) := by decide +kernel
theorem dX12_reads_45 : decode cX12_reads 45 = .ok (.iadd, 1) := by decide +kernel
theorem dX12_reads_46 : decode cX12_reads 46 = .ok (.putfield 84, 3) := by decide +kernel
theorem dX12_reads_49 : decode cX12_reads 49 = .ok (.goto (-49), 3) := by decide +kernel
theorem dX12_reads_52 : decode cX12_reads 52 = .ok (.aload_n 0, 1) := by decide +kernel
theorem dX12_reads_53 : decode cX12_reads 53 = .ok (.aload_n 0, 1) := by decide +kernel
theorem dX12_reads_54 : decode cX12_reads 54 = .ok (.getfield 84, 3) := by decide +kernel
theorem dX12_reads_57 : decode cX12_reads 57 = .ok (.putfield 87, 3) := by decide +kernel
theorem dX12_reads_60 : decode cX12_reads 60 = .ok (.aload_n 0, 1) := by decide +kernel
theorem dX12_reads_61 : decode cX12_reads 61 = .ok (.getfield 84, 3) := by decide +kernel
theorem dX12_reads_64 : decode cX12_reads 64 = .ok (.aload_n 0, 1) := by decide +kernel
theorem dX12_reads_65 : decode cX12_reads 65 = .ok (.getfield 81, 3) := by decide +kernel
theorem dX12_reads_68 : decode cX12_reads 68 = .ok (.if_icmp .lt 9, 3) := by decide +kernel
theorem dX12_reads_71 : decode cX12_reads 71 = .ok (.aload_n 0, 1) := by decide +kernel
theorem dX12_reads_72 : decode cX12_reads 72 = .ok (.iconst 0, 1) := by decide +kernel
theorem dX12_reads_73 : decode cX12_reads 73 = .ok (.putfield 90, 3) := by decide +kernel
theorem dX12_reads_76 : decode cX12_reads 76 = .ok (.return_, 1) := by decide +kernel
theorem dX12_reads_77 : decode cX12_reads 77 = .ok (.aload_n 0, 1) := by decide +kernel
theorem dX12_reads_78 : decode cX12_reads 78 = .ok (.getfield 23, 3) := by decide +kernel
theorem dX12_reads_81 : decode cX12_reads 81 = .ok (.aload_n 0, 1) := by decide +kernel
theorem dX12_reads_82 : decode cX12_reads 82 = .ok (.getfield 84, 3) := by decide +kernel
theorem dX12_reads_85 : decode cX12_reads 85 = .ok (.iaload, 1) := by decide +kernel
theorem dX12_reads_86 : decode cX12_reads 86 = .ok (.istore_n 1, 1) := by decide +kernel
theorem dX12_reads_87 : decode cX12_reads 87 = .ok (.iload_n 1, 1) := by decide +kernel
theorem dX12_reads_88 : decode cX12_reads 88 = .ok (.invokestatic 93, 3) := by decide +kernel
theorem dX12_reads_91 : decode cX12_reads 91 = .ok (.ifCond .eq 38, 3) := by decide +kernel
theorem dX12_reads_94 : decode cX12_reads 94 = .ok (.aload_n 0, 1) := by decide +kernel
theorem dX12_reads_95 : decode cX12_reads 95 = .ok (.aload_n 0, 1) := by decide +kernel
theorem dX12_reads_96 : decode cX12_reads 96 = .ok (.getfield 84, 3) := by decide +kernel
theorem dX12_reads_99 : decode cX12_reads 99 = .ok (.invokevirtual 97, 3) := by decide +kernel
theorem dX12_reads_102 : decode cX12_reads 102 = .ok (.invokestatic 93, 3) := by decide +kernel
theorem dX12_reads_105 : decode cX12_reads 105 = .ok (.ifCond .eq 16, 3) := by decide +kernel
theorem dX12_reads_108 : decode cX12_reads 108 = .ok (.aload_n 0, 1) := by decide +kernel
theorem dX12_reads_109 : decode cX12_reads 109 = .ok (.dup, 1) := by decide +kernel
theorem dX12_reads_110 : decode cX12_reads 110 = .ok (.getfield 84, 3) := by decide +kernel
theorem dX12_reads_113 : decode cX12_reads 113 = .ok (.iconst 1, 1) := by decide +kernel
theorem dX12_reads_114 : decode cX12_reads 114 = .ok (.iadd, 1) := by decide +kernel
theorem dX12_reads_115 : decode cX12_reads 115 = .ok (.putfield 84, 3) := by decide +kernel
theorem dX12_reads_118 : decode cX12_reads 118 = .ok (.goto (-24), 3) := by decide +kernel
theorem dX12_reads_121 : decode cX12_reads 121 = .ok (.aload_n 0, 1) := by decide +kernel
theorem dX12_reads_122 : decode cX12_reads 122 = .ok (.iconst 1, 1) := by decide +kernel
theorem dX12_reads_123 : decode cX12_reads 123 = .ok (.putfield 90, 3) := by decide +kernel
theorem dX12_reads_126 : decode cX12_reads 126 = .ok (.goto 136, 3) := by decide +kernel
theorem dX12_reads_129 : decode cX12_reads 129 = .ok (.iload_n 1, 1) := by decide +kernel
theorem dX12_reads_130 : decode cX12_reads 130 = .ok (.invokestatic 101, 3) := by decide +kernel
theorem dX12_reads_133 : decode cX12_reads 133 = .ok (.ifCond .eq 104, 3) := by decide +kernel
theorem dX12_reads_136 : decode cX12_reads 136 = .ok (.aload_n 0, 1) := by decide +kernel
theorem dX12_reads_137 : decode cX12_reads 137 = .ok (.iconst 0, 1) := by decide +kernel
theorem dX12_reads_138 : decode cX12_reads 138 = .ok (.putfield 104, 3) := by decide +kernel
theorem dX12_reads_141 : decode cX12_reads 141 = .ok (.aload_n 0, 1) := by decide +kernel
theorem dX12_reads_142 : decode cX12_reads 142 = .ok (.aload_n 0, 1) := by decide +kernel
theorem dX12_reads_143 : decode cX12_reads 143 = .ok (.getfield 84, 3) := by decide +kernel
theorem dX12_reads_146 : decode cX12_reads 146 = .ok (.invokevirtual 97, 3) := by decide +kernel
theorem dX12_reads_149 : decode cX12_reads 149 = .ok (.invokestatic 101, 3) := by decide +kernel
theorem dX12_reads_152 : decode cX12_reads 152 = .ok (.ifCond .eq 60, 3) := by decide +kernel
theorem dX12_reads_155 : decode cX12_reads 155 = .ok (.aload_n 0, 1) := by decide +kernel
theorem dX12_reads_156 : decode cX12_reads 156 = .ok (.aload_n 0, 1) := by decide +kernel
theorem dX12_reads_157 : decode cX12_reads 157 = .ok (.getfield 84, 3) := by decide +kernel
theorem dX12_reads_160 : decode cX12_reads 160 = .ok (.aload_n 0, 1) := by decide +kernel
theorem dX12_reads_161 : decode cX12_reads 161 = .ok (.getfield 87, 3) := by decide +kernel
theorem dX12_reads_164 : decode cX12_reads 164 = .ok (.isub, 1) := by decide +kernel
theorem dX12_reads_165 : decode cX12_reads 165 = .ok (.iconst 5, 1) := by decide +kernel
theorem dX12_reads_166 : decode cX12_reads 166 = .ok (.if_icmp .ge 26, 3) := by decide +kernel
theorem dX12_reads_169 : decode cX12_reads 169 = .ok (.bipush 10, 2) := by decide +kernel
theorem dX12_reads_171 : decode cX12_reads 171 = .ok (.aload_n 0, 1) := by decide +kernel
theorem dX12_reads_172 : decode cX12_reads 172 = .ok (.getfield 104, 3) := by decide +kernel
theorem dX12_reads_175 : decode cX12_reads 175 = .ok (.imul, 1) := by decide +kernel
theorem dX12_reads_176 : decode cX12_reads 176 = .ok (.aload_n 0, 1) := by decide +kernel
theorem dX12_reads_177 : decode cX12_reads 177 = .ok (.getfield 23, 3) := by decide +kernel
theorem dX12_reads_180 : decode cX12_reads 180 = .ok (.aload_n 0, 1) := by decide +kernel
theorem dX12_reads_181 : decode cX12_reads 181 = .ok (.getfield 84, 3) := by decide +kernel
theorem dX12_reads_184 : decode cX12_reads 184 = .ok (.iaload, 1) := by decide +kernel
theorem dX12_reads_185 : decode cX12_reads 185 = .ok (.iadd, 1) := by decide +kernel
theorem dX12_reads_186 : decode cX12_reads 186 = .ok (.bipush 48, 2) := by decide +kernel
theorem dX12_reads_188 : decode cX12_reads 188 = .ok (.isub, 1) := by decide +kernel
theorem dX12_reads_189 : decode cX12_reads 189 = .ok (.goto 7, 3) := by decide +kernel
theorem dX12_reads_192 : decode cX12_reads 192 = .ok (.aload_n 0, 1) := by decide +kernel
theorem dX12_reads_193 : decode cX12_reads 193 = .ok (.getfield 104, 3) := by decide +kernel
theorem dX12_reads_196 : decode cX12_reads 196 = .ok (.putfield 104, 3) := by decide +kernel
theorem dX12_reads_199 : decode cX12_reads 199 = .ok (.aload_n 0, 1) := by decide +kernel
theorem dX12_reads_200 : decode cX12_reads 200 = .ok (.dup, 1) := by decide +kernel
theorem dX12_reads_201 : decode cX12_reads 201 = .ok (.getfield 84, 3) := by decide +kernel
theorem dX12_reads_204 : decode cX12_reads 204 = .ok (.iconst 1, 1) := by decide +kernel
theorem dX12_reads_205 : decode cX12_reads 205 = .ok (.iadd, 1) := by decide +kernel
theorem dX12_reads_206 : decode cX12_reads 206 = .ok (.putfield 84, 3) := by decide +kernel
theorem dX12_reads_209 : decode cX12_reads 209 = .ok (.goto (-68), 3) := by decide +kernel
theorem dX12_reads_212 : decode cX12_reads 212 = .ok (.aload_n 0, 1) := by decide +kernel
theorem dX12_reads_213 : decode cX12_reads 213 = .ok (.aload_n 0, 1) := by decide +kernel
theorem dX12_reads_214 : decode cX12_reads 214 = .ok (.getfield 84, 3) := by decide +kernel
theorem dX12_reads_217 : decode cX12_reads 217 = .ok (.aload_n 0, 1) := by decide +kernel
theorem dX12_reads_218 : decode cX12_reads 218 = .ok (.getfield 87, 3) := by decide +kernel
theorem dX12_reads_221 : decode cX12_reads 221 = .ok (.isub, 1) := by decide +kernel
theorem dX12_reads_222 : decode cX12_reads 222 = .ok (.iconst 5, 1) := by decide +kernel
theorem dX12_reads_223 : decode cX12_reads 223 = .ok (.if_icmp .le 7, 3) := by decide +kernel
theorem dX12_reads_226 : decode cX12_reads 226 = .ok (.iconst 4, 1) := by decide +kernel
theorem dX12_reads_227 : decode cX12_reads 227 = .ok (.goto 4, 3) := by decide +kernel
theorem dX12_reads_230 : decode cX12_reads 230 = .ok (.iconst 2, 1) := by decide +kernel
theorem dX12_reads_231 : decode cX12_reads 231 = .ok (.putfield 90, 3) := by decide +kernel
theorem dX12_reads_234 : decode cX12_reads 234 = .ok (.goto 28, 3) := by decide +kernel
theorem dX12_reads_237 : decode cX12_reads 237 = .ok (.aload_n 0, 1) := by decide +kernel
theorem dX12_reads_238 : decode cX12_reads 238 = .ok (.iload_n 1, 1) := by decide +kernel
theorem dX12_reads_239 : decode cX12_reads 239 = .ok (.bipush 59, 2) := by decide +kernel
theorem dX12_reads_241 : decode cX12_reads 241 = .ok (.if_icmp .ne 7, 3) := by decide +kernel
theorem dX12_reads_244 : decode cX12_reads 244 = .ok (.iconst 3, 1) := by decide +kernel
theorem dX12_reads_245 : decode cX12_reads 245 = .ok (.goto 4, 3) := by decide +kernel
theorem dX12_reads_248 : decode cX12_reads 248 = .ok (.iconst 4, 1) := by decide +kernel
theorem dX12_reads_249 : decode cX12_reads 249 = .ok (.putfield 90, 3) := by decide +kernel
theorem dX12_reads_252 : decode cX12_reads 252 = .ok (.aload_n 0, 1) := by decide +kernel
theorem dX12_reads_253 : decode cX12_reads 253 = .ok (.dup, 1) := by decide +kernel
theorem dX12_reads_254 : decode cX12_reads 254 = .ok (.getfield 84, 3) := by decide +kernel
theorem dX12_reads_257 : decode cX12_reads 257 = .ok (.iconst 1, 1) := by decide +kernel
theorem dX12_reads_258 : decode cX12_reads 258 = .ok (.iadd, 1) := by decide +kernel
theorem dX12_reads_259 : decode cX12_reads 259 = .ok (.putfield 84, 3) := by decide +kernel
theorem dX12_reads_262 : decode cX12_reads 262 = .ok (.return_, 1) := by decide +kernel
theorem dX12_blames_0 : decode cX12_blames 0 = .ok (.aload_n 0, 1) := by decide +kernel
theorem dX12_blames_1 : decode cX12_blames 1 = .ok (.getfield 107, 3) := by decide +kernel
theorem dX12_blames_4 : decode cX12_blames 4 = .ok (.ifCond .eq 4, 3) := by decide +kernel
theorem dX12_blames_7 : decode cX12_blames 7 = .ok (.return_, 1) := by decide +kernel
theorem dX12_blames_8 : decode cX12_blames 8 = .ok (.aload_n 0, 1) := by decide +kernel
theorem dX12_blames_9 : decode cX12_blames 9 = .ok (.aload_n 0, 1) := by decide +kernel
theorem dX12_blames_10 : decode cX12_blames 10 = .ok (.getfield 90, 3) := by decide +kernel
theorem dX12_blames_13 : decode cX12_blames 13 = .ok (.iconst 4, 1) := by decide +kernel
theorem dX12_blames_14 : decode cX12_blames 14 = .ok (.if_icmp .ne 7, 3) := by decide +kernel
theorem dX12_blames_17 : decode cX12_blames 17 = .ok (.iconst 1, 1) := by decide +kernel
theorem dX12_blames_18 : decode cX12_blames 18 = .ok (.goto 4, 3) := by decide +kernel
theorem dX12_blames_21 : decode cX12_blames 21 = .ok (.iload_n 1, 1) := by decide +kernel
theorem dX12_blames_22 : decode cX12_blames 22 = .ok (.putfield 107, 3) := by decide +kernel
theorem dX12_blames_25 : decode cX12_blames 25 = .ok (.aload_n 0, 1) := by decide +kernel
theorem dX12_blames_26 : decode cX12_blames 26 = .ok (.aload_n 0, 1) := by decide +kernel
theorem dX12_blames_27 : decode cX12_blames 27 = .ok (.getfield 87, 3) := by decide +kernel
theorem dX12_blames_30 : decode cX12_blames 30 = .ok (.putfield 110, 3) := by decide +kernel
theorem dX12_blames_33 : decode cX12_blames 33 = .ok (.return_, 1) := by decide +kernel
theorem dX12_isWord_0 : decode cX12_isWord 0 = .ok (.aload_n 0, 1) := by decide +kernel
theorem dX12_isWord_1 : decode cX12_isWord 1 = .ok (.getfield 107, 3) := by decide +kernel
theorem dX12_isWord_4 : decode cX12_isWord 4 = .ok (.ifCond .ne 31, 3) := by decide +kernel
theorem dX12_isWord_7 : decode cX12_isWord 7 = .ok (.aload_n 0, 1) := by decide +kernel
theorem dX12_isWord_8 : decode cX12_isWord 8 = .ok (.getfield 90, 3) := by decide +kernel
theorem dX12_isWord_11 : decode cX12_isWord 11 = .ok (.iconst 1, 1) := by decide +kernel
theorem dX12_isWord_12 : decode cX12_isWord 12 = .ok (.if_icmp .ne 23, 3) := by decide +kernel
theorem dX12_isWord_15 : decode cX12_isWord 15 = .ok (.aload_n 0, 1) := by decide +kernel
theorem dX12_isWord_16 : decode cX12_isWord 16 = .ok (.getfield 84, 3) := by decide +kernel
theorem dX12_isWord_19 : decode cX12_isWord 19 = .ok (.aload_n 0, 1) := by decide +kernel
theorem dX12_isWord_20 : decode cX12_isWord 20 = .ok (.getfield 87, 3) := by decide +kernel
theorem dX12_isWord_23 : decode cX12_isWord 23 = .ok (.isub, 1) := by decide +kernel
theorem dX12_isWord_24 : decode cX12_isWord 24 = .ok (.aload_n 1, 1) := by decide +kernel
theorem dX12_isWord_25 : decode cX12_isWord 25 = .ok (.invokevirtual 113, 3) := by decide +kernel
theorem dX12_isWord_28 : decode cX12_isWord 28 = .ok (.if_icmp .ne 7, 3) := by decide +kernel
theorem dX12_isWord_31 : decode cX12_isWord 31 = .ok (.iconst 1, 1) := by decide +kernel
theorem dX12_isWord_32 : decode cX12_isWord 32 = .ok (.goto 4, 3) := by decide +kernel
theorem dX12_isWord_35 : decode cX12_isWord 35 = .ok (.iconst 0, 1) := by decide +kernel
theorem dX12_isWord_36 : decode cX12_isWord 36 = .ok (.istore_n 2, 1) := by decide +kernel
theorem dX12_isWord_37 : decode cX12_isWord 37 = .ok (.iconst 0, 1) := by decide +kernel
theorem dX12_isWord_38 : decode cX12_isWord 38 = .ok (.istore_n 3, 1) := by decide +kernel
theorem dX12_isWord_39 : decode cX12_isWord 39 = .ok (.iload_n 2, 1) := by decide +kernel
theorem dX12_isWord_40 : decode cX12_isWord 40 = .ok (.ifCond .eq 42, 3) := by decide +kernel
theorem dX12_isWord_43 : decode cX12_isWord 43 = .ok (.iload_n 3, 1) := by decide +kernel
theorem dX12_isWord_44 : decode cX12_isWord 44 = .ok (.aload_n 1, 1) := by decide +kernel
theorem dX12_isWord_45 : decode cX12_isWord 45 = .ok (.invokevirtual 113, 3) := by decide +kernel
theorem dX12_isWord_48 : decode cX12_isWord 48 = .ok (.if_icmp .ge 34, 3) := by decide +kernel
theorem dX12_isWord_51 : decode cX12_isWord 51 = .ok (.aload_n 0, 1) := by decide +kernel
theorem dX12_isWord_52 : decode cX12_isWord 52 = .ok (.getfield 23, 3) := by decide +kernel
theorem dX12_isWord_55 : decode cX12_isWord 55 = .ok (.aload_n 0, 1) := by decide +kernel
theorem dX12_isWord_56 : decode cX12_isWord 56 = .ok (.getfield 87, 3) := by decide +kernel
theorem dX12_isWord_59 : decode cX12_isWord 59 = .ok (.iload_n 3, 1) := by decide +kernel
theorem dX12_isWord_60 : decode cX12_isWord 60 = .ok (.iadd, 1) := by decide +kernel
theorem dX12_isWord_61 : decode cX12_isWord 61 = .ok (.iaload, 1) := by decide +kernel
theorem dX12_isWord_62 : decode cX12_isWord 62 = .ok (.aload_n 1, 1) := by decide +kernel
theorem dX12_isWord_63 : decode cX12_isWord 63 = .ok (.iload_n 3, 1) := by decide +kernel
theorem dX12_isWord_64 : decode cX12_isWord 64 = .ok (.invokevirtual 119, 3) := by decide +kernel
theorem dX12_isWord_67 : decode cX12_isWord 67 = .ok (.if_icmp .ne 7, 3) := by decide +kernel
theorem dX12_isWord_70 : decode cX12_isWord 70 = .ok (.iconst 1, 1) := by decide +kernel
theorem dX12_isWord_71 : decode cX12_isWord 71 = .ok (.goto 4, 3) := by decide +kernel
theorem dX12_isWord_74 : decode cX12_isWord 74 = .ok (.iconst 0, 1) := by decide +kernel
theorem dX12_isWord_75 : decode cX12_isWord 75 = .ok (.istore_n 2, 1) := by decide +kernel
theorem dX12_isWord_76 : decode cX12_isWord 76 = .ok (.iinc 3 1, 3) := by decide +kernel
theorem dX12_isWord_79 : decode cX12_isWord 79 = .ok (.goto (-40), 3) := by decide +kernel
theorem dX12_isWord_82 : decode cX12_isWord 82 = .ok (.iload_n 2, 1) := by decide +kernel
theorem dX12_isWord_83 : decode cX12_isWord 83 = .ok (.ireturn, 1) := by decide +kernel
theorem dX12_took_0 : decode cX12_took 0 = .ok (.aload_n 0, 1) := by decide +kernel
theorem dX12_took_1 : decode cX12_took 1 = .ok (.aload_n 1, 1) := by decide +kernel
theorem dX12_took_2 : decode cX12_took 2 = .ok (.invokevirtual 123, 3) := by decide +kernel
theorem dX12_took_5 : decode cX12_took 5 = .ok (.istore_n 2, 1) := by decide +kernel
theorem dX12_took_6 : decode cX12_took 6 = .ok (.iload_n 2, 1) := by decide +kernel
theorem dX12_took_7 : decode cX12_took 7 = .ok (.ifCond .eq 7, 3) := by decide +kernel
theorem dX12_took_10 : decode cX12_took 10 = .ok (.aload_n 0, 1) := by decide +kernel
theorem dX12_took_11 : decode cX12_took 11 = .ok (.invokevirtual 127, 3) := by decide +kernel
theorem dX12_took_14 : decode cX12_took 14 = .ok (.iload_n 2, 1) := by decide +kernel
theorem dX12_took_15 : decode cX12_took 15 = .ok (.ireturn, 1) := by decide +kernel
theorem dX12_numberBut_0 : decode cX12_numberBut 0 = .ok (.aload_n 0, 1) := by decide +kernel
theorem dX12_numberBut_1 : decode cX12_numberBut 1 = .ok (.getfield 90, 3) := by decide +kernel
theorem dX12_numberBut_4 : decode cX12_numberBut 4 = .ok (.iconst 2, 1) := by decide +kernel
theorem dX12_numberBut_5 : decode cX12_numberBut 5 = .ok (.if_icmp .eq 11, 3) := by decide +kernel
theorem dX12_numberBut_8 : decode cX12_numberBut 8 = .ok (.aload_n 0, 1) := by decide +kernel
theorem dX12_numberBut_9 : decode cX12_numberBut 9 = .ok (.iconst 2, 1) := by decide +kernel
theorem dX12_numberBut_10 : decode cX12_numberBut 10 = .ok (.invokevirtual 130, 3) := by decide +kernel
theorem dX12_numberBut_13 : decode cX12_numberBut 13 = .ok (.goto 31, 3) := by decide +kernel
theorem dX12_numberBut_16 : decode cX12_numberBut 16 = .ok (.aload_n 0, 1) := by decide +kernel
theorem dX12_numberBut_17 : decode cX12_numberBut 17 = .ok (.getfield 104, 3) := by decide +kernel
theorem dX12_numberBut_20 : decode cX12_numberBut 20 = .ok (.i2l, 1) := by decide +kernel
theorem dX12_numberBut_21 : decode cX12_numberBut 21 = .ok (.iload_n 1, 1) := by decide +kernel
theorem dX12_numberBut_22 : decode cX12_numberBut 22 = .ok (.i2l, 1) := by decide +kernel
theorem dX12_numberBut_23 : decode cX12_numberBut 23 = .ok (.iload_n 2, 1) := by decide +kernel
theorem dX12_numberBut_24 : decode cX12_numberBut 24 = .ok (.i2l, 1) := by decide +kernel
theorem dX12_numberBut_25 : decode cX12_numberBut 25 = .ok (.invokestatic 134, 3) := by decide +kernel
theorem dX12_numberBut_28 : decode cX12_numberBut 28 = .ok (.ifCond .eq 11, 3) := by decide +kernel
theorem dX12_numberBut_31 : decode cX12_numberBut 31 = .ok (.aload_n 0, 1) := by decide +kernel
theorem dX12_numberBut_32 : decode cX12_numberBut 32 = .ok (.getfield 104, 3) := by decide +kernel
theorem dX12_numberBut_35 : decode cX12_numberBut 35 = .ok (.iload_n 3, 1) := by decide +kernel
theorem dX12_numberBut_36 : decode cX12_numberBut 36 = .ok (.if_icmp .ne 8, 3) := by decide +kernel
theorem dX12_numberBut_39 : decode cX12_numberBut 39 = .ok (.aload_n 0, 1) := by decide +kernel
theorem dX12_numberBut_40 : decode cX12_numberBut 40 = .ok (.iconst 3, 1) := by decide +kernel
theorem dX12_numberBut_41 : decode cX12_numberBut 41 = .ok (.invokevirtual 130, 3) := by decide +kernel
theorem dX12_numberBut_44 : decode cX12_numberBut 44 = .ok (.aload_n 0, 1) := by decide +kernel
theorem dX12_numberBut_45 : decode cX12_numberBut 45 = .ok (.getfield 104, 3) := by decide +kernel
theorem dX12_numberBut_48 : decode cX12_numberBut 48 = .ok (.istore 4, 2) := by decide +kernel
theorem dX12_numberBut_50 : decode cX12_numberBut 50 = .ok (.aload_n 0, 1) := by decide +kernel
theorem dX12_numberBut_51 : decode cX12_numberBut 51 = .ok (.getfield 107, 3) := by decide +kernel
theorem dX12_numberBut_54 : decode cX12_numberBut 54 = .ok (.ifCond .ne 7, 3) := by decide +kernel
theorem dX12_numberBut_57 : decode cX12_numberBut 57 = .ok (.aload_n 0, 1) := by decide +kernel
theorem dX12_numberBut_58 : decode cX12_numberBut 58 = .ok (.invokevirtual 127, 3) := by decide +kernel
theorem dX12_numberBut_61 : decode cX12_numberBut 61 = .ok (.aload_n 0, 1) := by decide +kernel
theorem dX12_numberBut_62 : decode cX12_numberBut 62 = .ok (.getfield 107, 3) := by decide +kernel
theorem dX12_numberBut_65 : decode cX12_numberBut 65 = .ok (.ifCond .ne 8, 3) := by decide +kernel
theorem dX12_numberBut_68 : decode cX12_numberBut 68 = .ok (.iload 4, 2) := by decide +kernel
theorem dX12_numberBut_70 : decode cX12_numberBut 70 = .ok (.goto 4, 3) := by decide +kernel
theorem dX12_numberBut_73 : decode cX12_numberBut 73 = .ok (.iload_n 1, 1) := by decide +kernel
theorem dX12_numberBut_74 : decode cX12_numberBut 74 = .ok (.ireturn, 1) := by decide +kernel
theorem dX12_number_0 : decode cX12_number 0 = .ok (.aload_n 0, 1) := by decide +kernel
theorem dX12_number_1 : decode cX12_number 1 = .ok (.iload_n 1, 1) := by decide +kernel
theorem dX12_number_2 : decode cX12_number 2 = .ok (.iload_n 2, 1) := by decide +kernel
theorem dX12_number_3 : decode cX12_number 3 = .ok (.iconst (-1), 1) := by decide +kernel
theorem dX12_number_4 : decode cX12_number 4 = .ok (.invokevirtual 138, 3) := by decide +kernel
theorem dX12_number_7 : decode cX12_number 7 = .ok (.ireturn, 1) := by decide +kernel
theorem dX12_told_0 : decode cX12_told 0 = .ok (.aload_n 0, 1) := by decide +kernel
theorem dX12_told_1 : decode cX12_told 1 = .ok (.aload_n 1, 1) := by decide +kernel
theorem dX12_told_2 : decode cX12_told 2 = .ok (.invokevirtual 142, 3) := by decide +kernel
theorem dX12_told_5 : decode cX12_told 5 = .ok (.ifCond .ne 8, 3) := by decide +kernel
theorem dX12_told_8 : decode cX12_told 8 = .ok (.aload_n 0, 1) := by decide +kernel
theorem dX12_told_9 : decode cX12_told 9 = .ok (.iconst 2, 1) := by decide +kernel
theorem dX12_told_10 : decode cX12_told 10 = .ok (.invokevirtual 130, 3) := by decide +kernel
theorem dX12_told_13 : decode cX12_told 13 = .ok (.aload_n 0, 1) := by decide +kernel
theorem dX12_told_14 : decode cX12_told 14 = .ok (.iload_n 2, 1) := by decide +kernel
theorem dX12_told_15 : decode cX12_told 15 = .ok (.iload_n 3, 1) := by decide +kernel
theorem dX12_told_16 : decode cX12_told 16 = .ok (.invokevirtual 145, 3) := by decide +kernel
theorem dX12_told_19 : decode cX12_told 19 = .ok (.ireturn, 1) := by decide +kernel
theorem dX12_room_0 : decode cX12_room 0 = .ok (.aload_n 0, 1) := by decide +kernel
theorem dX12_room_1 : decode cX12_room 1 = .ok (.iconst 0, 1) := by decide +kernel
theorem dX12_room_2 : decode cX12_room 2 = .ok (.aload_n 0, 1) := by decide +kernel
theorem dX12_room_3 : decode cX12_room 3 = .ok (.getfield 16, 3) := by decide +kernel
theorem dX12_room_6 : decode cX12_room 6 = .ok (.iconst 1, 1) := by decide +kernel
theorem dX12_room_7 : decode cX12_room 7 = .ok (.iaload, 1) := by decide +kernel
theorem dX12_room_8 : decode cX12_room 8 = .ok (.iconst 1, 1) := by decide +kernel
theorem dX12_room_9 : decode cX12_room 9 = .ok (.isub, 1) := by decide +kernel
theorem dX12_room_10 : decode cX12_room 10 = .ok (.invokevirtual 145, 3) := by decide +kernel
theorem dX12_room_13 : decode cX12_room 13 = .ok (.ireturn, 1) := by decide +kernel
theorem dX12_begins__0 : decode cX12_begins_ 0 = .ok (.aload_n 0, 1) := by decide +kernel
theorem dX12_begins__1 : decode cX12_begins_ 1 = .ok (.getfield 16, 3) := by decide +kernel
theorem dX12_begins__4 : decode cX12_begins_ 4 = .ok (.iload_n 1, 1) := by decide +kernel
theorem dX12_begins__5 : decode cX12_begins_ 5 = .ok (.iaload, 1) := by decide +kernel
theorem dX12_begins__6 : decode cX12_begins_ 6 = .ok (.iload_n 2, 1) := by decide +kernel
theorem dX12_begins__7 : decode cX12_begins_ 7 = .ok (.if_icmp .ne 8, 3) := by decide +kernel
theorem dX12_begins__10 : decode cX12_begins_ 10 = .ok (.aload_n 0, 1) := by decide +kernel
theorem dX12_begins__11 : decode cX12_begins_ 11 = .ok (.iconst 4, 1) := by decide +kernel
theorem dX12_begins__12 : decode cX12_begins_ 12 = .ok (.invokevirtual 130, 3) := by decide +kernel
theorem dX12_begins__15 : decode cX12_begins_ 15 = .ok (.aload_n 0, 1) := by decide +kernel
theorem dX12_begins__16 : decode cX12_begins_ 16 = .ok (.getfield 107, 3) := by decide +kernel
theorem dX12_begins__19 : decode cX12_begins_ 19 = .ok (.ifCond .ne 7, 3) := by decide +kernel
theorem dX12_begins__22 : decode cX12_begins_ 22 = .ok (.aload_n 0, 1) := by decide +kernel
theorem dX12_begins__23 : decode cX12_begins_ 23 = .ok (.invokevirtual 127, 3) := by decide +kernel
theorem dX12_begins__26 : decode cX12_begins_ 26 = .ok (.return_, 1) := by decide +kernel
theorem dX12_readRooms_0 : decode cX12_readRooms 0 = .ok (.aload_n 0, 1) := by decide +kernel
theorem dX12_readRooms_1 : decode cX12_readRooms 1 = .ok (.getfield 16, 3) := by decide +kernel
theorem dX12_readRooms_4 : decode cX12_readRooms 4 = .ok (.iconst 1, 1) := by decide +kernel
theorem dX12_readRooms_5 : decode cX12_readRooms 5 = .ok (.iaload, 1) := by decide +kernel
theorem dX12_readRooms_6 : decode cX12_readRooms 6 = .ok (.ifCond .le 8, 3) := by decide +kernel
theorem dX12_readRooms_9 : decode cX12_readRooms 9 = .ok (.aload_n 0, 1) := by decide +kernel
theorem dX12_readRooms_10 : decode cX12_readRooms 10 = .ok (.iconst 4, 1) := by decide +kernel
theorem dX12_readRooms_11 : decode cX12_readRooms 11 = .ok (.invokevirtual 130, 3) := by decide +kernel
theorem dX12_readRooms_14 : decode cX12_readRooms 14 = .ok (.aload_n 0, 1) := by decide +kernel
theorem dX12_readRooms_15 : decode cX12_readRooms 15 = .ok (.getfield 107, 3) := by decide +kernel
theorem dX12_readRooms_18 : decode cX12_readRooms 18 = .ok (.ifCond .ne 7, 3) := by decide +kernel
theorem dX12_readRooms_21 : decode cX12_readRooms 21 = .ok (.aload_n 0, 1) := by decide +kernel
theorem dX12_readRooms_22 : decode cX12_readRooms 22 = .ok (.invokevirtual 127, 3) := by decide +kernel
theorem dX12_readRooms_25 : decode cX12_readRooms 25 = .ok (.aload_n 0, 1) := by decide +kernel
theorem dX12_readRooms_26 : decode cX12_readRooms 26 = .ok (.iconst 1, 1) := by decide +kernel
theorem dX12_readRooms_27 : decode cX12_readRooms 27 = .ok (.bipush 16, 2) := by decide +kernel
theorem dX12_readRooms_29 : decode cX12_readRooms 29 = .ok (.invokevirtual 145, 3) := by decide +kernel
theorem dX12_readRooms_32 : decode cX12_readRooms 32 = .ok (.istore_n 1, 1) := by decide +kernel
theorem dX12_readRooms_33 : decode cX12_readRooms 33 = .ok (.aload_n 0, 1) := by decide +kernel
theorem dX12_readRooms_34 : decode cX12_readRooms 34 = .ok (.getfield 107, 3) := by decide +kernel
theorem dX12_readRooms_37 : decode cX12_readRooms 37 = .ok (.ifCond .ne 10, 3) := by decide +kernel
theorem dX12_readRooms_40 : decode cX12_readRooms 40 = .ok (.aload_n 0, 1) := by decide +kernel
theorem dX12_readRooms_41 : decode cX12_readRooms 41 = .ok (.getfield 16, 3) := by decide +kernel
theorem dX12_readRooms_44 : decode cX12_readRooms 44 = .ok (.iconst 1, 1) := by decide +kernel
theorem dX12_readRooms_45 : decode cX12_readRooms 45 = .ok (.iload_n 1, 1) := by decide +kernel
theorem dX12_readRooms_46 : decode cX12_readRooms 46 = .ok (.iastore, 1) := by decide +kernel
theorem dX12_readRooms_47 : decode cX12_readRooms 47 = .ok (.return_, 1) := by decide +kernel
theorem dX12_readSides_0 : decode cX12_readSides 0 = .ok (.aload_n 0, 1) := by decide +kernel
theorem dX12_readSides_1 : decode cX12_readSides 1 = .ok (.invokevirtual 149, 3) := by decide +kernel
theorem dX12_readSides_4 : decode cX12_readSides 4 = .ok (.istore_n 2, 1) := by decide +kernel
theorem dX12_readSides_5 : decode cX12_readSides 5 = .ok (.aload_n 0, 1) := by decide +kernel
theorem dX12_readSides_6 : decode cX12_readSides 6 = .ok (.ldc 152, 2) := by decide +kernel
theorem dX12_readSides_8 : decode cX12_readSides 8 = .ok (.invokevirtual 142, 3) := by decide +kernel
theorem dX12_readSides_11 : decode cX12_readSides 11 = .ok (.ifCond .ne 8, 3) := by decide +kernel
theorem dX12_readSides_14 : decode cX12_readSides 14 = .ok (.aload_n 0, 1) := by decide +kernel
theorem dX12_readSides_15 : decode cX12_readSides 15 = .ok (.iconst 2, 1) := by decide +kernel
theorem dX12_readSides_16 : decode cX12_readSides 16 = .ok (.invokevirtual 130, 3) := by decide +kernel
theorem dX12_readSides_19 : decode cX12_readSides 19 = .ok (.aload_n 0, 1) := by decide +kernel
theorem dX12_readSides_20 : decode cX12_readSides 20 = .ok (.iconst 0, 1) := by decide +kernel
theorem dX12_readSides_21 : decode cX12_readSides 21 = .ok (.aload_n 0, 1) := by decide +kernel
theorem dX12_readSides_22 : decode cX12_readSides 22 = .ok (.getfield 16, 3) := by decide +kernel
theorem dX12_readSides_25 : decode cX12_readSides 25 = .ok (.iconst 1, 1) := by decide +kernel
theorem dX12_readSides_26 : decode cX12_readSides 26 = .ok (.iaload, 1) := by decide +kernel
theorem dX12_readSides_27 : decode cX12_readSides 27 = .ok (.iconst 1, 1) := by decide +kernel
theorem dX12_readSides_28 : decode cX12_readSides 28 = .ok (.isub, 1) := by decide +kernel
theorem dX12_readSides_29 : decode cX12_readSides 29 = .ok (.iload_n 2, 1) := by decide +kernel
theorem dX12_readSides_30 : decode cX12_readSides 30 = .ok (.invokevirtual 138, 3) := by decide +kernel
theorem dX12_readSides_33 : decode cX12_readSides 33 = .ok (.istore_n 3, 1) := by decide +kernel
theorem dX12_readSides_34 : decode cX12_readSides 34 = .ok (.aload_n 0, 1) := by decide +kernel
theorem dX12_readSides_35 : decode cX12_readSides 35 = .ok (.ldc 154, 2) := by decide +kernel
theorem dX12_readSides_37 : decode cX12_readSides 37 = .ok (.iconst 1, 1) := by decide +kernel
theorem dX12_readSides_38 : decode cX12_readSides 38 = .ok (.bipush 100, 2) := by decide +kernel
theorem dX12_readSides_40 : decode cX12_readSides 40 = .ok (.invokevirtual 156, 3) := by decide +kernel
theorem dX12_readSides_43 : decode cX12_readSides 43 = .ok (.istore 4, 2) := by decide +kernel
theorem dX12_readSides_45 : decode cX12_readSides 45 = .ok (.aload_n 0, 1) := by decide +kernel
theorem dX12_readSides_46 : decode cX12_readSides 46 = .ok (.getfield 107, 3) := by decide +kernel
theorem dX12_readSides_49 : decode cX12_readSides 49 = .ok (.ifCond .eq 4, 3) := by decide +kernel
theorem dX12_readSides_52 : decode cX12_readSides 52 = .ok (.return_, 1) := by decide +kernel
theorem dX12_readSides_53 : decode cX12_readSides 53 = .ok (.aload_n 0, 1) := by decide +kernel
theorem dX12_readSides_54 : decode cX12_readSides 54 = .ok (.getfield 16, 3) := by decide +kernel
theorem dX12_readSides_57 : decode cX12_readSides 57 = .ok (.iload_n 1, 1) := by decide +kernel
theorem dX12_readSides_58 : decode cX12_readSides 58 = .ok (.iload_n 2, 1) := by decide +kernel
theorem dX12_readSides_59 : decode cX12_readSides 59 = .ok (.iastore, 1) := by decide +kernel
theorem dX12_readSides_60 : decode cX12_readSides 60 = .ok (.aload_n 0, 1) := by decide +kernel
theorem dX12_readSides_61 : decode cX12_readSides 61 = .ok (.getfield 16, 3) := by decide +kernel
theorem dX12_readSides_64 : decode cX12_readSides 64 = .ok (.iload_n 1, 1) := by decide +kernel
theorem dX12_readSides_65 : decode cX12_readSides 65 = .ok (.iconst 1, 1) := by decide +kernel
theorem dX12_readSides_66 : decode cX12_readSides 66 = .ok (.iadd, 1) := by decide +kernel
theorem dX12_readSides_67 : decode cX12_readSides 67 = .ok (.iload_n 3, 1) := by decide +kernel
theorem dX12_readSides_68 : decode cX12_readSides 68 = .ok (.iastore, 1) := by decide +kernel
theorem dX12_readSides_69 : decode cX12_readSides 69 = .ok (.aload_n 0, 1) := by decide +kernel
theorem dX12_readSides_70 : decode cX12_readSides 70 = .ok (.getfield 16, 3) := by decide +kernel
theorem dX12_readSides_73 : decode cX12_readSides 73 = .ok (.iload_n 1, 1) := by decide +kernel
theorem dX12_readSides_74 : decode cX12_readSides 74 = .ok (.iconst 2, 1) := by decide +kernel
theorem dX12_readSides_75 : decode cX12_readSides 75 = .ok (.iadd, 1) := by decide +kernel
theorem dX12_readSides_76 : decode cX12_readSides 76 = .ok (.iload 4, 2) := by decide +kernel
theorem dX12_readSides_78 : decode cX12_readSides 78 = .ok (.iastore, 1) := by decide +kernel
theorem dX12_readSides_79 : decode cX12_readSides 79 = .ok (.return_, 1) := by decide +kernel
theorem dX12_readPane_0 : decode cX12_readPane 0 = .ok (.aload_n 0, 1) := by decide +kernel
theorem dX12_readPane_1 : decode cX12_readPane 1 = .ok (.iconst 2, 1) := by decide +kernel
theorem dX12_readPane_2 : decode cX12_readPane 2 = .ok (.bipush 60, 2) := by decide +kernel
theorem dX12_readPane_4 : decode cX12_readPane 4 = .ok (.invokevirtual 159, 3) := by decide +kernel
theorem dX12_readPane_7 : decode cX12_readPane 7 = .ok (.aload_n 0, 1) := by decide +kernel
theorem dX12_readPane_8 : decode cX12_readPane 8 = .ok (.getfield 107, 3) := by decide +kernel
theorem dX12_readPane_11 : decode cX12_readPane 11 = .ok (.ifCond .eq 4, 3) := by decide +kernel
theorem dX12_readPane_14 : decode cX12_readPane 14 = .ok (.return_, 1) := by decide +kernel
theorem dX12_readPane_15 : decode cX12_readPane 15 = .ok (.bipush 8, 2) := by decide +kernel
theorem dX12_readPane_17 : decode cX12_readPane 17 = .ok (.iconst 4, 1) := by decide +kernel
theorem dX12_readPane_18 : decode cX12_readPane 18 = .ok (.aload_n 0, 1) := by decide +kernel
theorem dX12_readPane_19 : decode cX12_readPane 19 = .ok (.getfield 16, 3) := by decide +kernel
theorem dX12_readPane_22 : decode cX12_readPane 22 = .ok (.iconst 2, 1) := by decide +kernel
theorem dX12_readPane_23 : decode cX12_readPane 23 = .ok (.iaload, 1) := by decide +kernel
theorem dX12_readPane_24 : decode cX12_readPane 24 = .ok (.imul, 1) := by decide +kernel
theorem dX12_readPane_25 : decode cX12_readPane 25 = .ok (.iadd, 1) := by decide +kernel
theorem dX12_readPane_26 : decode cX12_readPane 26 = .ok (.istore_n 1, 1) := by decide +kernel
theorem dX12_readPane_27 : decode cX12_readPane 27 = .ok (.aload_n 0, 1) := by decide +kernel
theorem dX12_readPane_28 : decode cX12_readPane 28 = .ok (.iload_n 1, 1) := by decide +kernel
theorem dX12_readPane_29 : decode cX12_readPane 29 = .ok (.invokevirtual 162, 3) := by decide +kernel
theorem dX12_readPane_32 : decode cX12_readPane 32 = .ok (.aload_n 0, 1) := by decide +kernel
theorem dX12_readPane_33 : decode cX12_readPane 33 = .ok (.getfield 16, 3) := by decide +kernel
theorem dX12_readPane_36 : decode cX12_readPane 36 = .ok (.iload_n 1, 1) := by decide +kernel
theorem dX12_readPane_37 : decode cX12_readPane 37 = .ok (.iconst 3, 1) := by decide +kernel
theorem dX12_readPane_38 : decode cX12_readPane 38 = .ok (.iadd, 1) := by decide +kernel
theorem dX12_readPane_39 : decode cX12_readPane 39 = .ok (.aload_n 0, 1) := by decide +kernel
theorem dX12_readPane_40 : decode cX12_readPane 40 = .ok (.ldc 165, 2) := by decide +kernel
theorem dX12_readPane_42 : decode cX12_readPane 42 = .ok (.invokevirtual 142, 3) := by decide +kernel
theorem dX12_readPane_45 : decode cX12_readPane 45 = .ok (.ifCond .eq 7, 3) := by decide +kernel
theorem dX12_readPane_48 : decode cX12_readPane 48 = .ok (.iconst 1, 1) := by decide +kernel
theorem dX12_readPane_49 : decode cX12_readPane 49 = .ok (.goto 4, 3) := by decide +kernel
theorem dX12_readPane_52 : decode cX12_readPane 52 = .ok (.iconst 0, 1) := by decide +kernel
theorem dX12_readPane_53 : decode cX12_readPane 53 = .ok (.iastore, 1) := by decide +kernel
theorem dX12_readPane_54 : decode cX12_readPane 54 = .ok (.aload_n 0, 1) := by decide +kernel
theorem dX12_readPane_55 : decode cX12_readPane 55 = .ok (.getfield 107, 3) := by decide +kernel
theorem dX12_readPane_58 : decode cX12_readPane 58 = .ok (.ifCond .ne 13, 3) := by decide +kernel
theorem dX12_readPane_61 : decode cX12_readPane 61 = .ok (.aload_n 0, 1) := by decide +kernel
theorem dX12_readPane_62 : decode cX12_readPane 62 = .ok (.getfield 16, 3) := by decide +kernel
theorem dX12_readPane_65 : decode cX12_readPane 65 = .ok (.iconst 2, 1) := by decide +kernel
theorem dX12_readPane_66 : decode cX12_readPane 66 = .ok (.dup2, 1) := by decide +kernel
theorem dX12_readPane_67 : decode cX12_readPane 67 = .ok (.iaload, 1) := by decide +kernel
theorem dX12_readPane_68 : decode cX12_readPane 68 = .ok (.iconst 1, 1) := by decide +kernel
theorem dX12_readPane_69 : decode cX12_readPane 69 = .ok (.iadd, 1) := by decide +kernel
theorem dX12_readPane_70 : decode cX12_readPane 70 = .ok (.iastore, 1) := by decide +kernel
theorem dX12_readPane_71 : decode cX12_readPane 71 = .ok (.return_, 1) := by decide +kernel
theorem dX12_readHole_0 : decode cX12_readHole 0 = .ok (.aload_n 0, 1) := by decide +kernel
theorem dX12_readHole_1 : decode cX12_readHole 1 = .ok (.iconst 5, 1) := by decide +kernel
theorem dX12_readHole_2 : decode cX12_readHole 2 = .ok (.bipush 8, 2) := by decide +kernel
theorem dX12_readHole_4 : decode cX12_readHole 4 = .ok (.invokevirtual 159, 3) := by decide +kernel
theorem dX12_readHole_7 : decode cX12_readHole 7 = .ok (.aload_n 0, 1) := by decide +kernel
theorem dX12_readHole_8 : decode cX12_readHole 8 = .ok (.getfield 107, 3) := by decide +kernel
theorem dX12_readHole_11 : decode cX12_readHole 11 = .ok (.ifCond .eq 4, 3) := by decide +kernel
theorem dX12_readHole_14 : decode cX12_readHole 14 = .ok (.return_, 1) := by decide +kernel
theorem dX12_readHole_15 : decode cX12_readHole 15 = .ok (.sipush 376, 3) := by decide +kernel
theorem dX12_readHole_18 : decode cX12_readHole 18 = .ok (.iconst 5, 1) := by decide +kernel
theorem dX12_readHole_19 : decode cX12_readHole 19 = .ok (.aload_n 0, 1) := by decide +kernel
theorem dX12_readHole_20 : decode cX12_readHole 20 = .ok (.getfield 16, 3) := by decide +kernel
theorem dX12_readHole_23 : decode cX12_readHole 23 = .ok (.iconst 5, 1) := by decide +kernel
theorem dX12_readHole_24 : decode cX12_readHole 24 = .ok (.iaload, 1) := by decide +kernel
theorem dX12_readHole_25 : decode cX12_readHole 25 = .ok (.imul, 1) := by decide +kernel
theorem dX12_readHole_26 : decode cX12_readHole 26 = .ok (.iadd, 1) := by decide +kernel
theorem dX12_readHole_27 : decode cX12_readHole 27 = .ok (.istore_n 1, 1) := by decide +kernel
theorem dX12_readHole_28 : decode cX12_readHole 28 = .ok (.aload_n 0, 1) := by decide +kernel
theorem dX12_readHole_29 : decode cX12_readHole 29 = .ok (.iload_n 1, 1) := by decide +kernel
theorem dX12_readHole_30 : decode cX12_readHole 30 = .ok (.invokevirtual 162, 3) := by decide +kernel
theorem dX12_readHole_33 : decode cX12_readHole 33 = .ok (.aload_n 0, 1) := by decide +kernel
theorem dX12_readHole_34 : decode cX12_readHole 34 = .ok (.ldc 167, 2) := by decide +kernel
theorem dX12_readHole_36 : decode cX12_readHole 36 = .ok (.iconst 0, 1) := by decide +kernel
theorem dX12_readHole_37 : decode cX12_readHole 37 = .ok (.bipush 99, 2) := by decide +kernel
theorem dX12_readHole_39 : decode cX12_readHole 39 = .ok (.invokevirtual 156, 3) := by decide +kernel
theorem dX12_readHole_42 : decode cX12_readHole 42 = .ok (.istore_n 2, 1) := by decide +kernel
theorem dX12_readHole_43 : decode cX12_readHole 43 = .ok (.aload_n 0, 1) := by decide +kernel
theorem dX12_readHole_44 : decode cX12_readHole 44 = .ok (.getfield 107, 3) := by decide +kernel
theorem dX12_readHole_47 : decode cX12_readHole 47 = .ok (.ifCond .eq 4, 3) := by decide +kernel
theorem dX12_readHole_50 : decode cX12_readHole 50 = .ok (.return_, 1) := by decide +kernel
theorem dX12_readHole_51 : decode cX12_readHole 51 = .ok (.aload_n 0, 1) := by decide +kernel
theorem dX12_readHole_52 : decode cX12_readHole 52 = .ok (.getfield 16, 3) := by decide +kernel
theorem dX12_readHole_55 : decode cX12_readHole 55 = .ok (.iload_n 1, 1) := by decide +kernel
theorem dX12_readHole_56 : decode cX12_readHole 56 = .ok (.iconst 3, 1) := by decide +kernel
theorem dX12_readHole_57 : decode cX12_readHole 57 = .ok (.iadd, 1) := by decide +kernel
theorem dX12_readHole_58 : decode cX12_readHole 58 = .ok (.iload_n 2, 1) := by decide +kernel
theorem dX12_readHole_59 : decode cX12_readHole 59 = .ok (.iastore, 1) := by decide +kernel
theorem dX12_readHole_60 : decode cX12_readHole 60 = .ok (.aload_n 0, 1) := by decide +kernel
theorem dX12_readHole_61 : decode cX12_readHole 61 = .ok (.getfield 16, 3) := by decide +kernel
theorem dX12_readHole_64 : decode cX12_readHole 64 = .ok (.iload_n 1, 1) := by decide +kernel
theorem dX12_readHole_65 : decode cX12_readHole 65 = .ok (.iconst 4, 1) := by decide +kernel
theorem dX12_readHole_66 : decode cX12_readHole 66 = .ok (.iadd, 1) := by decide +kernel
theorem dX12_readHole_67 : decode cX12_readHole 67 = .ok (.aload_n 0, 1) := by decide +kernel
theorem dX12_readHole_68 : decode cX12_readHole 68 = .ok (.ldc 165, 2) := by decide +kernel
theorem dX12_readHole_70 : decode cX12_readHole 70 = .ok (.invokevirtual 142, 3) := by decide +kernel
theorem dX12_readHole_73 : decode cX12_readHole 73 = .ok (.ifCond .eq 7, 3) := by decide +kernel
theorem dX12_readHole_76 : decode cX12_readHole 76 = .ok (.iconst 1, 1) := by decide +kernel
theorem dX12_readHole_77 : decode cX12_readHole 77 = .ok (.goto 4, 3) := by decide +kernel
theorem dX12_readHole_80 : decode cX12_readHole 80 = .ok (.iconst 0, 1) := by decide +kernel
theorem dX12_readHole_81 : decode cX12_readHole 81 = .ok (.iastore, 1) := by decide +kernel
theorem dX12_readHole_82 : decode cX12_readHole 82 = .ok (.aload_n 0, 1) := by decide +kernel
theorem dX12_readHole_83 : decode cX12_readHole 83 = .ok (.getfield 107, 3) := by decide +kernel
theorem dX12_readHole_86 : decode cX12_readHole 86 = .ok (.ifCond .ne 13, 3) := by decide +kernel
theorem dX12_readHole_89 : decode cX12_readHole 89 = .ok (.aload_n 0, 1) := by decide +kernel
theorem dX12_readHole_90 : decode cX12_readHole 90 = .ok (.getfield 16, 3) := by decide +kernel
theorem dX12_readHole_93 : decode cX12_readHole 93 = .ok (.iconst 5, 1) := by decide +kernel
theorem dX12_readHole_94 : decode cX12_readHole 94 = .ok (.dup2, 1) := by decide +kernel
theorem dX12_readHole_95 : decode cX12_readHole 95 = .ok (.iaload, 1) := by decide +kernel
theorem dX12_readHole_96 : decode cX12_readHole 96 = .ok (.iconst 1, 1) := by decide +kernel
theorem dX12_readHole_97 : decode cX12_readHole 97 = .ok (.iadd, 1) := by decide +kernel
theorem dX12_readHole_98 : decode cX12_readHole 98 = .ok (.iastore, 1) := by decide +kernel
theorem dX12_readHole_99 : decode cX12_readHole 99 = .ok (.return_, 1) := by decide +kernel
theorem dX12_readLamp_0 : decode cX12_readLamp 0 = .ok (.aload_n 0, 1) := by decide +kernel
theorem dX12_readLamp_1 : decode cX12_readLamp 1 = .ok (.iconst 3, 1) := by decide +kernel
theorem dX12_readLamp_2 : decode cX12_readLamp 2 = .ok (.iconst 4, 1) := by decide +kernel
theorem dX12_readLamp_3 : decode cX12_readLamp 3 = .ok (.invokevirtual 159, 3) := by decide +kernel
theorem dX12_readLamp_6 : decode cX12_readLamp 6 = .ok (.aload_n 0, 1) := by decide +kernel
theorem dX12_readLamp_7 : decode cX12_readLamp 7 = .ok (.getfield 107, 3) := by decide +kernel
theorem dX12_readLamp_10 : decode cX12_readLamp 10 = .ok (.ifCond .eq 4, 3) := by decide +kernel
theorem dX12_readLamp_13 : decode cX12_readLamp 13 = .ok (.return_, 1) := by decide +kernel
theorem dX12_readLamp_14 : decode cX12_readLamp 14 = .ok (.aload_n 0, 1) := by decide +kernel
theorem dX12_readLamp_15 : decode cX12_readLamp 15 = .ok (.ldc 169, 2) := by decide +kernel
theorem dX12_readLamp_17 : decode cX12_readLamp 17 = .ok (.iconst 1, 1) := by decide +kernel
theorem dX12_readLamp_18 : decode cX12_readLamp 18 = .ok (.sipush 999, 3) := by decide +kernel
theorem dX12_readLamp_21 : decode cX12_readLamp 21 = .ok (.invokevirtual 156, 3) := by decide +kernel
theorem dX12_readLamp_24 : decode cX12_readLamp 24 = .ok (.istore_n 1, 1) := by decide +kernel
theorem dX12_readLamp_25 : decode cX12_readLamp 25 = .ok (.aload_n 0, 1) := by decide +kernel
theorem dX12_readLamp_26 : decode cX12_readLamp 26 = .ok (.ldc 171, 2) := by decide +kernel
theorem dX12_readLamp_28 : decode cX12_readLamp 28 = .ok (.iconst 0, 1) := by decide +kernel
theorem dX12_readLamp_29 : decode cX12_readLamp 29 = .ok (.bipush 99, 2) := by decide +kernel
theorem dX12_readLamp_31 : decode cX12_readLamp 31 = .ok (.invokevirtual 156, 3) := by decide +kernel
theorem dX12_readLamp_34 : decode cX12_readLamp 34 = .ok (.istore_n 2, 1) := by decide +kernel
theorem dX12_readLamp_35 : decode cX12_readLamp 35 = .ok (.aload_n 0, 1) := by decide +kernel
theorem dX12_readLamp_36 : decode cX12_readLamp 36 = .ok (.getfield 107, 3) := by decide +kernel
theorem dX12_readLamp_39 : decode cX12_readLamp 39 = .ok (.ifCond .eq 4, 3) := by decide +kernel
theorem dX12_readLamp_42 : decode cX12_readLamp 42 = .ok (.return_, 1) := by decide +kernel
theorem dX12_readLamp_43 : decode cX12_readLamp 43 = .ok (.aload_n 0, 1) := by decide +kernel
theorem dX12_readLamp_44 : decode cX12_readLamp 44 = .ok (.getfield 16, 3) := by decide +kernel
theorem dX12_readLamp_47 : decode cX12_readLamp 47 = .ok (.sipush 248, 3) := by decide +kernel
theorem dX12_readLamp_50 : decode cX12_readLamp 50 = .ok (.iconst 2, 1) := by decide +kernel
theorem dX12_readLamp_51 : decode cX12_readLamp 51 = .ok (.aload_n 0, 1) := by decide +kernel
theorem dX12_readLamp_52 : decode cX12_readLamp 52 = .ok (.getfield 16, 3) := by decide +kernel
theorem dX12_readLamp_55 : decode cX12_readLamp 55 = .ok (.iconst 3, 1) := by decide +kernel
theorem dX12_readLamp_56 : decode cX12_readLamp 56 = .ok (.iaload, 1) := by decide +kernel
theorem dX12_readLamp_57 : decode cX12_readLamp 57 = .ok (.imul, 1) := by decide +kernel
theorem dX12_readLamp_58 : decode cX12_readLamp 58 = .ok (.iadd, 1) := by decide +kernel
theorem dX12_readLamp_59 : decode cX12_readLamp 59 = .ok (.iload_n 1, 1) := by decide +kernel
theorem dX12_readLamp_60 : decode cX12_readLamp 60 = .ok (.iastore, 1) := by decide +kernel
theorem dX12_readLamp_61 : decode cX12_readLamp 61 = .ok (.aload_n 0, 1) := by decide +kernel
theorem dX12_readLamp_62 : decode cX12_readLamp 62 = .ok (.getfield 16, 3) := by decide +kernel
theorem dX12_readLamp_65 : decode cX12_readLamp 65 = .ok (.sipush 248, 3) := by decide +kernel
theorem dX12_readLamp_68 : decode cX12_readLamp 68 = .ok (.iconst 2, 1) := by decide +kernel
theorem dX12_readLamp_69 : decode cX12_readLamp 69 = .ok (.aload_n 0, 1) := by decide +kernel
theorem dX12_readLamp_70 : decode cX12_readLamp 70 = .ok (.getfield 16, 3) := by decide +kernel
theorem dX12_readLamp_73 : decode cX12_readLamp 73 = .ok (.iconst 3, 1) := by decide +kernel
theorem dX12_readLamp_74 : decode cX12_readLamp 74 = .ok (.iaload, 1) := by decide +kernel
theorem dX12_readLamp_75 : decode cX12_readLamp 75 = .ok (.imul, 1) := by decide +kernel
theorem dX12_readLamp_76 : decode cX12_readLamp 76 = .ok (.iadd, 1) := by decide +kernel
theorem dX12_readLamp_77 : decode cX12_readLamp 77 = .ok (.iconst 1, 1) := by decide +kernel
theorem dX12_readLamp_78 : decode cX12_readLamp 78 = .ok (.iadd, 1) := by decide +kernel
theorem dX12_readLamp_79 : decode cX12_readLamp 79 = .ok (.iload_n 2, 1) := by decide +kernel
theorem dX12_readLamp_80 : decode cX12_readLamp 80 = .ok (.iastore, 1) := by decide +kernel
theorem dX12_readLamp_81 : decode cX12_readLamp 81 = .ok (.aload_n 0, 1) := by decide +kernel
theorem dX12_readLamp_82 : decode cX12_readLamp 82 = .ok (.getfield 16, 3) := by decide +kernel
theorem dX12_readLamp_85 : decode cX12_readLamp 85 = .ok (.iconst 3, 1) := by decide +kernel
theorem dX12_readLamp_86 : decode cX12_readLamp 86 = .ok (.dup2, 1) := by decide +kernel
theorem dX12_readLamp_87 : decode cX12_readLamp 87 = .ok (.iaload, 1) := by decide +kernel
theorem dX12_readLamp_88 : decode cX12_readLamp 88 = .ok (.iconst 1, 1) := by decide +kernel
theorem dX12_readLamp_89 : decode cX12_readLamp 89 = .ok (.iadd, 1) := by decide +kernel
theorem dX12_readLamp_90 : decode cX12_readLamp 90 = .ok (.iastore, 1) := by decide +kernel
theorem dX12_readLamp_91 : decode cX12_readLamp 91 = .ok (.return_, 1) := by decide +kernel
theorem dX12_readWant_0 : decode cX12_readWant 0 = .ok (.aload_n 0, 1) := by decide +kernel
theorem dX12_readWant_1 : decode cX12_readWant 1 = .ok (.iconst 4, 1) := by decide +kernel
theorem dX12_readWant_2 : decode cX12_readWant 2 = .ok (.bipush 24, 2) := by decide +kernel
theorem dX12_readWant_4 : decode cX12_readWant 4 = .ok (.invokevirtual 159, 3) := by decide +kernel
theorem dX12_readWant_7 : decode cX12_readWant 7 = .ok (.aload_n 0, 1) := by decide +kernel
theorem dX12_readWant_8 : decode cX12_readWant 8 = .ok (.getfield 107, 3) := by decide +kernel
theorem dX12_readWant_11 : decode cX12_readWant 11 = .ok (.ifCond .eq 4, 3) := by decide +kernel
theorem dX12_readWant_14 : decode cX12_readWant 14 = .ok (.return_, 1) := by decide +kernel
theorem dX12_readWant_15 : decode cX12_readWant 15 = .ok (.sipush 256, 3) := by decide +kernel
theorem dX12_readWant_18 : decode cX12_readWant 18 = .ok (.iconst 5, 1) := by decide +kernel
theorem dX12_readWant_19 : decode cX12_readWant 19 = .ok (.aload_n 0, 1) := by decide +kernel
theorem dX12_readWant_20 : decode cX12_readWant 20 = .ok (.getfield 16, 3) := by decide +kernel
theorem dX12_readWant_23 : decode cX12_readWant 23 = .ok (.iconst 4, 1) := by decide +kernel
theorem dX12_readWant_24 : decode cX12_readWant 24 = .ok (.iaload, 1) := by decide +kernel
theorem dX12_readWant_25 : decode cX12_readWant 25 = .ok (.imul, 1) := by decide +kernel
theorem dX12_readWant_26 : decode cX12_readWant 26 = .ok (.iadd, 1) := by decide +kernel
theorem dX12_readWant_27 : decode cX12_readWant 27 = .ok (.istore_n 1, 1) := by decide +kernel
theorem dX12_readWant_28 : decode cX12_readWant 28 = .ok (.aload_n 0, 1) := by decide +kernel
theorem dX12_readWant_29 : decode cX12_readWant 29 = .ok (.invokevirtual 149, 3) := by decide +kernel
theorem dX12_readWant_32 : decode cX12_readWant 32 = .ok (.istore_n 2, 1) := by decide +kernel
theorem dX12_readWant_33 : decode cX12_readWant 33 = .ok (.aload_n 0, 1) := by decide +kernel
theorem dX12_readWant_34 : decode cX12_readWant 34 = .ok (.ldc 173, 2) := by decide +kernel
theorem dX12_readWant_36 : decode cX12_readWant 36 = .ok (.iconst 0, 1) := by decide +kernel
theorem dX12_readWant_37 : decode cX12_readWant 37 = .ok (.sipush 9999, 3) := by decide +kernel
theorem dX12_readWant_40 : decode cX12_readWant 40 = .ok (.invokevirtual 156, 3) := by decide +kernel
theorem dX12_readWant_43 : decode cX12_readWant 43 = .ok (.istore_n 3, 1) := by decide +kernel
theorem dX12_readWant_44 : decode cX12_readWant 44 = .ok (.aload_n 0, 1) := by decide +kernel
theorem dX12_readWant_45 : decode cX12_readWant 45 = .ok (.ldc 175, 2) := by decide +kernel
theorem dX12_readWant_47 : decode cX12_readWant 47 = .ok (.invokevirtual 142, 3) := by decide +kernel
theorem dX12_readWant_50 : decode cX12_readWant 50 = .ok (.ifCond .eq 14, 3) := by decide +kernel
theorem dX12_readWant_53 : decode cX12_readWant 53 = .ok (.aload_n 0, 1) := by decide +kernel
theorem dX12_readWant_54 : decode cX12_readWant 54 = .ok (.iload_n 3, 1) := by decide +kernel
theorem dX12_readWant_55 : decode cX12_readWant 55 = .ok (.sipush 9999, 3) := by decide +kernel
theorem dX12_readWant_58 : decode cX12_readWant 58 = .ok (.invokevirtual 145, 3) := by decide +kernel
theorem dX12_readWant_61 : decode cX12_readWant 61 = .ok (.goto 5, 3) := by decide +kernel
theorem dX12_readWant_64 : decode cX12_readWant 64 = .ok (.ldc 177, 2) := by decide +kernel
theorem dX12_readWant_66 : decode cX12_readWant 66 = .ok (.istore 4, 2) := by decide +kernel
theorem dX12_readWant_68 : decode cX12_readWant 68 = .ok (.aload_n 0, 1) := by decide +kernel
theorem dX12_readWant_69 : decode cX12_readWant 69 = .ok (.ldc 178, 2) := by decide +kernel
theorem dX12_readWant_71 : decode cX12_readWant 71 = .ok (.invokevirtual 142, 3) := by decide +kernel
theorem dX12_readWant_74 : decode cX12_readWant 74 = .ok (.istore 5, 2) := by decide +kernel
theorem dX12_readWant_76 : decode cX12_readWant 76 = .ok (.iload 5, 2) := by decide +kernel
theorem dX12_readWant_78 : decode cX12_readWant 78 = .ok (.ifCond .eq 13, 3) := by decide +kernel
theorem dX12_readWant_81 : decode cX12_readWant 81 = .ok (.aload_n 0, 1) := by decide +kernel
theorem dX12_readWant_82 : decode cX12_readWant 82 = .ok (.iconst 0, 1) := by decide +kernel
theorem dX12_readWant_83 : decode cX12_readWant 83 = .ok (.bipush 23, 2) := by decide +kernel
theorem dX12_readWant_85 : decode cX12_readWant 85 = .ok (.invokevirtual 145, 3) := by decide +kernel
theorem dX12_readWant_88 : decode cX12_readWant 88 = .ok (.goto 4, 3) := by decide +kernel
theorem dX12_readWant_91 : decode cX12_readWant 91 = .ok (.iconst 0, 1) := by decide +kernel
theorem dX12_readWant_92 : decode cX12_readWant 92 = .ok (.istore 6, 2) := by decide +kernel
theorem dX12_readWant_94 : decode cX12_readWant 94 = .ok (.iload 5, 2) := by decide +kernel
theorem dX12_readWant_96 : decode cX12_readWant 96 = .ok (.ifCond .eq 16, 3) := by decide +kernel
theorem dX12_readWant_99 : decode cX12_readWant 99 = .ok (.aload_n 0, 1) := by decide +kernel
theorem dX12_readWant_100 : decode cX12_readWant 100 = .ok (.ldc 152, 2) := by decide +kernel
theorem dX12_readWant_102 : decode cX12_readWant 102 = .ok (.iload 6, 2) := by decide +kernel
theorem dX12_readWant_104 : decode cX12_readWant 104 = .ok (.bipush 23, 2) := by decide +kernel
theorem dX12_readWant_106 : decode cX12_readWant 106 = .ok (.invokevirtual 156, 3) := by decide +kernel
theorem dX12_readWant_109 : decode cX12_readWant 109 = .ok (.goto 5, 3) := by decide +kernel
theorem dX12_readWant_112 : decode cX12_readWant 112 = .ok (.bipush 23, 2) := by decide +kernel
theorem dX12_readWant_114 : decode cX12_readWant 114 = .ok (.istore 7, 2) := by decide +kernel
theorem dX12_readWant_116 : decode cX12_readWant 116 = .ok (.aload_n 0, 1) := by decide +kernel
theorem dX12_readWant_117 : decode cX12_readWant 117 = .ok (.getfield 107, 3) := by decide +kernel
theorem dX12_readWant_120 : decode cX12_readWant 120 = .ok (.ifCond .eq 4, 3) := by decide +kernel
theorem dX12_readWant_123 : decode cX12_readWant 123 = .ok (.return_, 1) := by decide +kernel
theorem dX12_readWant_124 : decode cX12_readWant 124 = .ok (.aload_n 0, 1) := by decide +kernel
theorem dX12_readWant_125 : decode cX12_readWant 125 = .ok (.getfield 16, 3) := by decide +kernel
theorem dX12_readWant_128 : decode cX12_readWant 128 = .ok (.iload_n 1, 1) := by decide +kernel
theorem dX12_readWant_129 : decode cX12_readWant 129 = .ok (.iload_n 2, 1) := by decide +kernel
theorem dX12_readWant_130 : decode cX12_readWant 130 = .ok (.iastore, 1) := by decide +kernel
theorem dX12_readWant_131 : decode cX12_readWant 131 = .ok (.aload_n 0, 1) := by decide +kernel
theorem dX12_readWant_132 : decode cX12_readWant 132 = .ok (.getfield 16, 3) := by decide +kernel
theorem dX12_readWant_135 : decode cX12_readWant 135 = .ok (.iload_n 1, 1) := by decide +kernel
theorem dX12_readWant_136 : decode cX12_readWant 136 = .ok (.iconst 1, 1) := by decide +kernel
theorem dX12_readWant_137 : decode cX12_readWant 137 = .ok (.iadd, 1) := by decide +kernel
theorem dX12_readWant_138 : decode cX12_readWant 138 = .ok (.iload_n 3, 1) := by decide +kernel
theorem dX12_readWant_139 : decode cX12_readWant 139 = .ok (.iastore, 1) := by decide +kernel
theorem dX12_readWant_140 : decode cX12_readWant 140 = .ok (.aload_n 0, 1) := by decide +kernel
theorem dX12_readWant_141 : decode cX12_readWant 141 = .ok (.getfield 16, 3) := by decide +kernel
theorem dX12_readWant_144 : decode cX12_readWant 144 = .ok (.iload_n 1, 1) := by decide +kernel
theorem dX12_readWant_145 : decode cX12_readWant 145 = .ok (.iconst 2, 1) := by decide +kernel
theorem dX12_readWant_146 : decode cX12_readWant 146 = .ok (.iadd, 1) := by decide +kernel
theorem dX12_readWant_147 : decode cX12_readWant 147 = .ok (.iload 4, 2) := by decide +kernel
theorem dX12_readWant_149 : decode cX12_readWant 149 = .ok (.iastore, 1) := by decide +kernel
theorem dX12_readWant_150 : decode cX12_readWant 150 = .ok (.aload_n 0, 1) := by decide +kernel
theorem dX12_readWant_151 : decode cX12_readWant 151 = .ok (.getfield 16, 3) := by decide +kernel
theorem dX12_readWant_154 : decode cX12_readWant 154 = .ok (.iload_n 1, 1) := by decide +kernel
theorem dX12_readWant_155 : decode cX12_readWant 155 = .ok (.iconst 3, 1) := by decide +kernel
theorem dX12_readWant_156 : decode cX12_readWant 156 = .ok (.iadd, 1) := by decide +kernel
theorem dX12_readWant_157 : decode cX12_readWant 157 = .ok (.iload 6, 2) := by decide +kernel
theorem dX12_readWant_159 : decode cX12_readWant 159 = .ok (.iastore, 1) := by decide +kernel
theorem dX12_readWant_160 : decode cX12_readWant 160 = .ok (.aload_n 0, 1) := by decide +kernel
theorem dX12_readWant_161 : decode cX12_readWant 161 = .ok (.getfield 16, 3) := by decide +kernel
theorem dX12_readWant_164 : decode cX12_readWant 164 = .ok (.iload_n 1, 1) := by decide +kernel
theorem dX12_readWant_165 : decode cX12_readWant 165 = .ok (.iconst 4, 1) := by decide +kernel
theorem dX12_readWant_166 : decode cX12_readWant 166 = .ok (.iadd, 1) := by decide +kernel
theorem dX12_readWant_167 : decode cX12_readWant 167 = .ok (.iload 7, 2) := by decide +kernel
theorem dX12_readWant_169 : decode cX12_readWant 169 = .ok (.iastore, 1) := by decide +kernel
theorem dX12_readWant_170 : decode cX12_readWant 170 = .ok (.aload_n 0, 1) := by decide +kernel
theorem dX12_readWant_171 : decode cX12_readWant 171 = .ok (.getfield 16, 3) := by decide +kernel
theorem dX12_readWant_174 : decode cX12_readWant 174 = .ok (.iconst 4, 1) := by decide +kernel
theorem dX12_readWant_175 : decode cX12_readWant 175 = .ok (.dup2, 1) := by decide +kernel
theorem dX12_readWant_176 : decode cX12_readWant 176 = .ok (.iaload, 1) := by decide +kernel
theorem dX12_readWant_177 : decode cX12_readWant 177 = .ok (.iconst 1, 1) := by decide +kernel
theorem dX12_readWant_178 : decode cX12_readWant 178 = .ok (.iadd, 1) := by decide +kernel
theorem dX12_readWant_179 : decode cX12_readWant 179 = .ok (.iastore, 1) := by decide +kernel
theorem dX12_readWant_180 : decode cX12_readWant 180 = .ok (.return_, 1) := by decide +kernel
theorem dX12_readBurns_0 : decode cX12_readBurns 0 = .ok (.aload_n 0, 1) := by decide +kernel
theorem dX12_readBurns_1 : decode cX12_readBurns 1 = .ok (.invokevirtual 127, 3) := by decide +kernel
theorem dX12_readBurns_4 : decode cX12_readBurns 4 = .ok (.aload_n 0, 1) := by decide +kernel
theorem dX12_readBurns_5 : decode cX12_readBurns 5 = .ok (.iconst 0, 1) := by decide +kernel
theorem dX12_readBurns_6 : decode cX12_readBurns 6 = .ok (.bipush 99, 2) := by decide +kernel
theorem dX12_readBurns_8 : decode cX12_readBurns 8 = .ok (.invokevirtual 145, 3) := by decide +kernel
theorem dX12_readBurns_11 : decode cX12_readBurns 11 = .ok (.istore_n 1, 1) := by decide +kernel
theorem dX12_readBurns_12 : decode cX12_readBurns 12 = .ok (.aload_n 0, 1) := by decide +kernel
theorem dX12_readBurns_13 : decode cX12_readBurns 13 = .ok (.ldc 180, 2) := by decide +kernel
theorem dX12_readBurns_15 : decode cX12_readBurns 15 = .ok (.invokevirtual 142, 3) := by decide +kernel
theorem dX12_readBurns_18 : decode cX12_readBurns 18 = .ok (.ifCond .ne 8, 3) := by decide +kernel
theorem dX12_readBurns_21 : decode cX12_readBurns 21 = .ok (.aload_n 0, 1) := by decide +kernel
theorem dX12_readBurns_22 : decode cX12_readBurns 22 = .ok (.iconst 2, 1) := by decide +kernel
theorem dX12_readBurns_23 : decode cX12_readBurns 23 = .ok (.invokevirtual 130, 3) := by decide +kernel
theorem dX12_readBurns_26 : decode cX12_readBurns 26 = .ok (.aload_n 0, 1) := by decide +kernel
theorem dX12_readBurns_27 : decode cX12_readBurns 27 = .ok (.invokevirtual 149, 3) := by decide +kernel
theorem dX12_readBurns_30 : decode cX12_readBurns 30 = .ok (.istore_n 2, 1) := by decide +kernel
theorem dX12_readBurns_31 : decode cX12_readBurns 31 = .ok (.aload_n 0, 1) := by decide +kernel
theorem dX12_readBurns_32 : decode cX12_readBurns 32 = .ok (.getfield 107, 3) := by decide +kernel
theorem dX12_readBurns_35 : decode cX12_readBurns 35 = .ok (.ifCond .ne 14, 3) := by decide +kernel
theorem dX12_readBurns_38 : decode cX12_readBurns 38 = .ok (.aload_n 0, 1) := by decide +kernel
theorem dX12_readBurns_39 : decode cX12_readBurns 39 = .ok (.getfield 16, 3) := by decide +kernel
theorem dX12_readBurns_42 : decode cX12_readBurns 42 = .ok (.sipush 416, 3) := by decide +kernel
theorem dX12_readBurns_45 : decode cX12_readBurns 45 = .ok (.iload_n 2, 1) := by decide +kernel
theorem dX12_readBurns_46 : decode cX12_readBurns 46 = .ok (.iadd, 1) := by decide +kernel
theorem dX12_readBurns_47 : decode cX12_readBurns 47 = .ok (.iload_n 1, 1) := by decide +kernel
theorem dX12_readBurns_48 : decode cX12_readBurns 48 = .ok (.iastore, 1) := by decide +kernel
theorem dX12_readBurns_49 : decode cX12_readBurns 49 = .ok (.return_, 1) := by decide +kernel
theorem dX12_readHates_0 : decode cX12_readHates 0 = .ok (.aload_n 0, 1) := by decide +kernel
theorem dX12_readHates_1 : decode cX12_readHates 1 = .ok (.invokevirtual 127, 3) := by decide +kernel
theorem dX12_readHates_4 : decode cX12_readHates 4 = .ok (.aload_n 0, 1) := by decide +kernel
theorem dX12_readHates_5 : decode cX12_readHates 5 = .ok (.invokevirtual 149, 3) := by decide +kernel
theorem dX12_readHates_8 : decode cX12_readHates 8 = .ok (.istore_n 1, 1) := by decide +kernel
theorem dX12_readHates_9 : decode cX12_readHates 9 = .ok (.aload_n 0, 1) := by decide +kernel
theorem dX12_readHates_10 : decode cX12_readHates 10 = .ok (.iconst 0, 1) := by decide +kernel
theorem dX12_readHates_11 : decode cX12_readHates 11 = .ok (.aload_n 0, 1) := by decide +kernel
theorem dX12_readHates_12 : decode cX12_readHates 12 = .ok (.getfield 16, 3) := by decide +kernel
theorem dX12_readHates_15 : decode cX12_readHates 15 = .ok (.iconst 1, 1) := by decide +kernel
theorem dX12_readHates_16 : decode cX12_readHates 16 = .ok (.iaload, 1) := by decide +kernel
theorem dX12_readHates_17 : decode cX12_readHates 17 = .ok (.iconst 1, 1) := by decide +kernel
theorem dX12_readHates_18 : decode cX12_readHates 18 = .ok (.isub, 1) := by decide +kernel
theorem dX12_readHates_19 : decode cX12_readHates 19 = .ok (.iload_n 1, 1) := by decide +kernel
theorem dX12_readHates_20 : decode cX12_readHates 20 = .ok (.invokevirtual 138, 3) := by decide +kernel
theorem dX12_readHates_23 : decode cX12_readHates 23 = .ok (.istore_n 2, 1) := by decide +kernel
theorem dX12_readHates_24 : decode cX12_readHates 24 = .ok (.aload_n 0, 1) := by decide +kernel
theorem dX12_readHates_25 : decode cX12_readHates 25 = .ok (.getfield 107, 3) := by decide +kernel
theorem dX12_readHates_28 : decode cX12_readHates 28 = .ok (.ifCond .ne 19, 3) := by decide +kernel
theorem dX12_readHates_31 : decode cX12_readHates 31 = .ok (.aload_n 0, 1) := by decide +kernel
theorem dX12_readHates_32 : decode cX12_readHates 32 = .ok (.getfield 16, 3) := by decide +kernel
theorem dX12_readHates_35 : decode cX12_readHates 35 = .ok (.sipush 432, 3) := by decide +kernel
theorem dX12_readHates_38 : decode cX12_readHates 38 = .ok (.iload_n 1, 1) := by decide +kernel
theorem dX12_readHates_39 : decode cX12_readHates 39 = .ok (.iadd, 1) := by decide +kernel
theorem dX12_readHates_40 : decode cX12_readHates 40 = .ok (.dup2, 1) := by decide +kernel
theorem dX12_readHates_41 : decode cX12_readHates 41 = .ok (.iaload, 1) := by decide +kernel
theorem dX12_readHates_42 : decode cX12_readHates 42 = .ok (.iconst 1, 1) := by decide +kernel
theorem dX12_readHates_43 : decode cX12_readHates 43 = .ok (.iload_n 2, 1) := by decide +kernel
theorem dX12_readHates_44 : decode cX12_readHates 44 = .ok (.ishl, 1) := by decide +kernel
theorem dX12_readHates_45 : decode cX12_readHates 45 = .ok (.ior, 1) := by decide +kernel
theorem dX12_readHates_46 : decode cX12_readHates 46 = .ok (.iastore, 1) := by decide +kernel
theorem dX12_readHates_47 : decode cX12_readHates 47 = .ok (.return_, 1) := by decide +kernel
theorem dX12_readLine_0 : decode cX12_readLine 0 = .ok (.aload_n 0, 1) := by decide +kernel
theorem dX12_readLine_1 : decode cX12_readLine 1 = .ok (.ldc 182, 2) := by decide +kernel
theorem dX12_readLine_3 : decode cX12_readLine 3 = .ok (.invokevirtual 123, 3) := by decide +kernel
theorem dX12_readLine_6 : decode cX12_readLine 6 = .ok (.ifCond .eq 10, 3) := by decide +kernel
theorem dX12_readLine_9 : decode cX12_readLine 9 = .ok (.aload_n 0, 1) := by decide +kernel
theorem dX12_readLine_10 : decode cX12_readLine 10 = .ok (.invokevirtual 184, 3) := by decide +kernel
theorem dX12_readLine_13 : decode cX12_readLine 13 = .ok (.goto 148, 3) := by decide +kernel
theorem dX12_readLine_16 : decode cX12_readLine 16 = .ok (.aload_n 0, 1) := by decide +kernel
theorem dX12_readLine_17 : decode cX12_readLine 17 = .ok (.ldc 187, 2) := by decide +kernel
theorem dX12_readLine_19 : decode cX12_readLine 19 = .ok (.invokevirtual 123, 3) := by decide +kernel
theorem dX12_readLine_22 : decode cX12_readLine 22 = .ok (.ifCond .eq 10, 3) := by decide +kernel
theorem dX12_readLine_25 : decode cX12_readLine 25 = .ok (.aload_n 0, 1) := by decide +kernel
theorem dX12_readLine_26 : decode cX12_readLine 26 = .ok (.invokevirtual 189, 3) := by decide +kernel
theorem dX12_readLine_29 : decode cX12_readLine 29 = .ok (.goto 132, 3) := by decide +kernel
theorem dX12_readLine_32 : decode cX12_readLine 32 = .ok (.aload_n 0, 1) := by decide +kernel
theorem dX12_readLine_33 : decode cX12_readLine 33 = .ok (.ldc 192, 2) := by decide +kernel
theorem dX12_readLine_35 : decode cX12_readLine 35 = .ok (.invokevirtual 142, 3) := by decide +kernel
theorem dX12_readLine_38 : decode cX12_readLine 38 = .ok (.ifCond .eq 21, 3) := by decide +kernel
theorem dX12_readLine_41 : decode cX12_readLine 41 = .ok (.aload_n 0, 1) := by decide +kernel
theorem dX12_readLine_42 : decode cX12_readLine 42 = .ok (.getfield 16, 3) := by decide +kernel
theorem dX12_readLine_45 : decode cX12_readLine 45 = .ok (.bipush 6, 2) := by decide +kernel
theorem dX12_readLine_47 : decode cX12_readLine 47 = .ok (.aload_n 0, 1) := by decide +kernel
theorem dX12_readLine_48 : decode cX12_readLine 48 = .ok (.iconst 0, 1) := by decide +kernel
theorem dX12_readLine_49 : decode cX12_readLine 49 = .ok (.sipush 999, 3) := by decide +kernel
theorem dX12_readLine_52 : decode cX12_readLine 52 = .ok (.invokevirtual 145, 3) := by decide +kernel
theorem dX12_readLine_55 : decode cX12_readLine 55 = .ok (.iastore, 1) := by decide +kernel
theorem dX12_readLine_56 : decode cX12_readLine 56 = .ok (.goto 105, 3) := by decide +kernel
theorem dX12_readLine_59 : decode cX12_readLine 59 = .ok (.aload_n 0, 1) := by decide +kernel
theorem dX12_readLine_60 : decode cX12_readLine 60 = .ok (.getfield 16, 3) := by decide +kernel
theorem dX12_readLine_63 : decode cX12_readLine 63 = .ok (.iconst 1, 1) := by decide +kernel
theorem dX12_readLine_64 : decode cX12_readLine 64 = .ok (.iaload, 1) := by decide +kernel
theorem dX12_readLine_65 : decode cX12_readLine 65 = .ok (.ifCond .ne 11, 3) := by decide +kernel
theorem dX12_readLine_68 : decode cX12_readLine 68 = .ok (.aload_n 0, 1) := by decide +kernel
theorem dX12_readLine_69 : decode cX12_readLine 69 = .ok (.iconst 2, 1) := by decide +kernel
theorem dX12_readLine_70 : decode cX12_readLine 70 = .ok (.invokevirtual 130, 3) := by decide +kernel
theorem dX12_readLine_73 : decode cX12_readLine 73 = .ok (.goto 88, 3) := by decide +kernel
theorem dX12_readLine_76 : decode cX12_readLine 76 = .ok (.aload_n 0, 1) := by decide +kernel
theorem dX12_readLine_77 : decode cX12_readLine 77 = .ok (.ldc 194, 2) := by decide +kernel
theorem dX12_readLine_79 : decode cX12_readLine 79 = .ok (.invokevirtual 123, 3) := by decide +kernel
theorem dX12_readLine_82 : decode cX12_readLine 82 = .ok (.ifCond .eq 10, 3) := by decide +kernel
theorem dX12_readLine_85 : decode cX12_readLine 85 = .ok (.aload_n 0, 1) := by decide +kernel
theorem dX12_readLine_86 : decode cX12_readLine 86 = .ok (.invokevirtual 196, 3) := by decide +kernel
theorem dX12_readLine_89 : decode cX12_readLine 89 = .ok (.goto 72, 3) := by decide +kernel
theorem dX12_readLine_92 : decode cX12_readLine 92 = .ok (.aload_n 0, 1) := by decide +kernel
theorem dX12_readLine_93 : decode cX12_readLine 93 = .ok (.ldc 199, 2) := by decide +kernel
theorem dX12_readLine_95 : decode cX12_readLine 95 = .ok (.invokevirtual 123, 3) := by decide +kernel
theorem dX12_readLine_98 : decode cX12_readLine 98 = .ok (.ifCond .eq 10, 3) := by decide +kernel
theorem dX12_readLine_101 : decode cX12_readLine 101 = .ok (.aload_n 0, 1) := by decide +kernel
theorem dX12_readLine_102 : decode cX12_readLine 102 = .ok (.invokevirtual 201, 3) := by decide +kernel
theorem dX12_readLine_105 : decode cX12_readLine 105 = .ok (.goto 56, 3) := by decide +kernel
theorem dX12_readLine_108 : decode cX12_readLine 108 = .ok (.aload_n 0, 1) := by decide +kernel
theorem dX12_readLine_109 : decode cX12_readLine 109 = .ok (.ldc 204, 2) := by decide +kernel
theorem dX12_readLine_111 : decode cX12_readLine 111 = .ok (.invokevirtual 123, 3) := by decide +kernel
theorem dX12_readLine_114 : decode cX12_readLine 114 = .ok (.ifCond .eq 10, 3) := by decide +kernel
theorem dX12_readLine_117 : decode cX12_readLine 117 = .ok (.aload_n 0, 1) := by decide +kernel
theorem dX12_readLine_118 : decode cX12_readLine 118 = .ok (.invokevirtual 206, 3) := by decide +kernel
theorem dX12_readLine_121 : decode cX12_readLine 121 = .ok (.goto 40, 3) := by decide +kernel
theorem dX12_readLine_124 : decode cX12_readLine 124 = .ok (.aload_n 0, 1) := by decide +kernel
theorem dX12_readLine_125 : decode cX12_readLine 125 = .ok (.ldc 209, 2) := by decide +kernel
theorem dX12_readLine_127 : decode cX12_readLine 127 = .ok (.invokevirtual 123, 3) := by decide +kernel
theorem dX12_readLine_130 : decode cX12_readLine 130 = .ok (.ifCond .eq 10, 3) := by decide +kernel
theorem dX12_readLine_133 : decode cX12_readLine 133 = .ok (.aload_n 0, 1) := by decide +kernel
theorem dX12_readLine_134 : decode cX12_readLine 134 = .ok (.invokevirtual 211, 3) := by decide +kernel
theorem dX12_readLine_137 : decode cX12_readLine 137 = .ok (.goto 24, 3) := by decide +kernel
theorem dX12_readLine_140 : decode cX12_readLine 140 = .ok (.aload_n 0, 1) := by decide +kernel
theorem dX12_readLine_141 : decode cX12_readLine 141 = .ok (.ldc 214, 2) := by decide +kernel
theorem dX12_readLine_143 : decode cX12_readLine 143 = .ok (.invokevirtual 123, 3) := by decide +kernel
theorem dX12_readLine_146 : decode cX12_readLine 146 = .ok (.ifCond .eq 10, 3) := by decide +kernel
theorem dX12_readLine_149 : decode cX12_readLine 149 = .ok (.aload_n 0, 1) := by decide +kernel
theorem dX12_readLine_150 : decode cX12_readLine 150 = .ok (.invokevirtual 216, 3) := by decide +kernel
theorem dX12_readLine_153 : decode cX12_readLine 153 = .ok (.goto 8, 3) := by decide +kernel
theorem dX12_readLine_156 : decode cX12_readLine 156 = .ok (.aload_n 0, 1) := by decide +kernel
theorem dX12_readLine_157 : decode cX12_readLine 157 = .ok (.iconst 2, 1) := by decide +kernel
theorem dX12_readLine_158 : decode cX12_readLine 158 = .ok (.invokevirtual 130, 3) := by decide +kernel
theorem dX12_readLine_161 : decode cX12_readLine 161 = .ok (.aload_n 0, 1) := by decide +kernel
theorem dX12_readLine_162 : decode cX12_readLine 162 = .ok (.getfield 90, 3) := by decide +kernel
theorem dX12_readLine_165 : decode cX12_readLine 165 = .ok (.iconst 3, 1) := by decide +kernel
theorem dX12_readLine_166 : decode cX12_readLine 166 = .ok (.if_icmp .eq 8, 3) := by decide +kernel
theorem dX12_readLine_169 : decode cX12_readLine 169 = .ok (.aload_n 0, 1) := by decide +kernel
theorem dX12_readLine_170 : decode cX12_readLine 170 = .ok (.iconst 2, 1) := by decide +kernel
theorem dX12_readLine_171 : decode cX12_readLine 171 = .ok (.invokevirtual 130, 3) := by decide +kernel
theorem dX12_readLine_174 : decode cX12_readLine 174 = .ok (.aload_n 0, 1) := by decide +kernel
theorem dX12_readLine_175 : decode cX12_readLine 175 = .ok (.getfield 107, 3) := by decide +kernel
theorem dX12_readLine_178 : decode cX12_readLine 178 = .ok (.ifCond .eq 4, 3) := by decide +kernel
theorem dX12_readLine_181 : decode cX12_readLine 181 = .ok (.return_, 1) := by decide +kernel
theorem dX12_readLine_182 : decode cX12_readLine 182 = .ok (.aload_n 0, 1) := by decide +kernel
theorem dX12_readLine_183 : decode cX12_readLine 183 = .ok (.invokevirtual 127, 3) := by decide +kernel
theorem dX12_readLine_186 : decode cX12_readLine 186 = .ok (.aload_n 0, 1) := by decide +kernel
theorem dX12_readLine_187 : decode cX12_readLine 187 = .ok (.getfield 16, 3) := by decide +kernel
theorem dX12_readLine_190 : decode cX12_readLine 190 = .ok (.iconst 0, 1) := by decide +kernel
theorem dX12_readLine_191 : decode cX12_readLine 191 = .ok (.dup2, 1) := by decide +kernel
theorem dX12_readLine_192 : decode cX12_readLine 192 = .ok (.iaload, 1) := by decide +kernel
theorem dX12_readLine_193 : decode cX12_readLine 193 = .ok (.iconst 1, 1) := by decide +kernel
theorem dX12_readLine_194 : decode cX12_readLine 194 = .ok (.iadd, 1) := by decide +kernel
theorem dX12_readLine_195 : decode cX12_readLine 195 = .ok (.iastore, 1) := by decide +kernel
theorem dX12_readLine_196 : decode cX12_readLine 196 = .ok (.return_, 1) := by decide +kernel
