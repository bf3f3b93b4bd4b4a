theorem dL_owed_16 : decode cL_owed 16 = .ok (.goto 6, 3) := by decide +kernel
theorem dL_owed_19 : decode cL_owed 19 = .ok (.astore_n 3, 1) := by decide +kernel
theorem dL_owed_20 : decode cL_owed 20 = .ok (.iconst 1, 1) := by decide +kernel
theorem dL_owed_21 : decode cL_owed 21 = .ok (.ireturn, 1) := by decide +kernel
theorem dL_owed_22 : decode cL_owed 22 = .ok (.iconst 0, 1) := by decide +kernel
theorem dL_owed_23 : decode cL_owed 23 = .ok (.ireturn, 1) := by decide +kernel
theorem dL_sooner_0 : decode cL_sooner 0 = .ok (.aload_n 2, 1) := by decide +kernel
theorem dL_sooner_1 : decode cL_sooner 1 = .ok (.iconst 0, 1) := by decide +kernel
theorem dL_sooner_2 : decode cL_sooner 2 = .ok (.aload_n 0, 1) := by decide +kernel
theorem dL_sooner_3 : decode cL_sooner 3 = .ok (.iload_n 1, 1) := by decide +kernel
theorem dL_sooner_4 : decode cL_sooner 4 = .ok (.invokevirtual 94, 3) := by decide +kernel
theorem dL_sooner_7 : decode cL_sooner 7 = .ok (.i2l, 1) := by decide +kernel
theorem dL_sooner_8 : decode cL_sooner 8 = .ok (.lastore, 1) := by decide +kernel
theorem dL_sooner_9 : decode cL_sooner 9 = .ok (.goto 15, 3) := by decide +kernel
theorem dL_sooner_12 : decode cL_sooner 12 = .ok (.astore_n 3, 1) := by decide +kernel
theorem dL_sooner_13 : decode cL_sooner 13 = .ok (.iconst 1, 1) := by decide +kernel
theorem dL_sooner_14 : decode cL_sooner 14 = .ok (.ireturn, 1) := by decide +kernel
theorem dL_sooner_15 : decode cL_sooner 15 = .ok (.astore_n 3, 1) := by decide +kernel
theorem dL_sooner_16 : decode cL_sooner 16 = .ok (.iconst 2, 1) := by decide +kernel
theorem dL_sooner_17 : decode cL_sooner 17 = .ok (.ireturn, 1) := by decide +kernel
theorem dL_sooner_18 : decode cL_sooner 18 = .ok (.astore_n 3, 1) := by decide +kernel
theorem dL_sooner_19 : decode cL_sooner 19 = .ok (.iconst 3, 1) := by decide +kernel
theorem dL_sooner_20 : decode cL_sooner 20 = .ok (.ireturn, 1) := by decide +kernel
theorem dL_sooner_21 : decode cL_sooner 21 = .ok (.astore_n 3, 1) := by decide +kernel
theorem dL_sooner_22 : decode cL_sooner 22 = .ok (.iconst 4, 1) := by decide +kernel
theorem dL_sooner_23 : decode cL_sooner 23 = .ok (.ireturn, 1) := by decide +kernel
theorem dL_sooner_24 : decode cL_sooner 24 = .ok (.iconst 0, 1) := by decide +kernel
theorem dL_sooner_25 : decode cL_sooner 25 = .ok (.ireturn, 1) := by decide +kernel
theorem dL_round_0 : decode cL_round 0 = .ok (.aload_n 3, 1) := by decide +kernel
theorem dL_round_1 : decode cL_round 1 = .ok (.iconst 0, 1) := by decide +kernel
theorem dL_round_2 : decode cL_round 2 = .ok (.aload_n 0, 1) := by decide +kernel
theorem dL_round_3 : decode cL_round 3 = .ok (.iload_n 1, 1) := by decide +kernel
theorem dL_round_4 : decode cL_round 4 = .ok (.iload_n 2, 1) := by decide +kernel
theorem dL_round_5 : decode cL_round 5 = .ok (.invokevirtual 101, 3) := by decide +kernel
theorem dL_round_8 : decode cL_round 8 = .ok (.i2l, 1) := by decide +kernel
theorem dL_round_9 : decode cL_round 9 = .ok (.lastore, 1) := by decide +kernel
theorem dL_round_10 : decode cL_round 10 = .ok (.goto 11, 3) := by decide +kernel
theorem dL_round_13 : decode cL_round 13 = .ok (.astore 4, 2) := by decide +kernel
theorem dL_round_15 : decode cL_round 15 = .ok (.iconst 1, 1) := by decide +kernel
theorem dL_round_16 : decode cL_round 16 = .ok (.ireturn, 1) := by decide +kernel
theorem dL_round_17 : decode cL_round 17 = .ok (.astore 4, 2) := by decide +kernel
theorem dL_round_19 : decode cL_round 19 = .ok (.iconst 2, 1) := by decide +kernel
theorem dL_round_20 : decode cL_round 20 = .ok (.ireturn, 1) := by decide +kernel
theorem dL_round_21 : decode cL_round 21 = .ok (.iconst 0, 1) := by decide +kernel
theorem dL_round_22 : decode cL_round 22 = .ok (.ireturn, 1) := by decide +kernel
theorem dL_rule_0 : decode cL_rule 0 = .ok (.aload 5, 2) := by decide +kernel
theorem dL_rule_2 : decode cL_rule 2 = .ok (.iconst 0, 1) := by decide +kernel
theorem dL_rule_3 : decode cL_rule 3 = .ok (.aload_n 0, 1) := by decide +kernel
theorem dL_rule_4 : decode cL_rule 4 = .ok (.iload_n 1, 1) := by decide +kernel
theorem dL_rule_5 : decode cL_rule 5 = .ok (.iload_n 2, 1) := by decide +kernel
theorem dL_rule_6 : decode cL_rule 6 = .ok (.iload_n 3, 1) := by decide +kernel
theorem dL_rule_7 : decode cL_rule 7 = .ok (.iload 4, 2) := by decide +kernel
theorem dL_rule_9 : decode cL_rule 9 = .ok (.invokevirtual 104, 3) := by decide +kernel
theorem dL_rule_12 : decode cL_rule 12 = .ok (.i2l, 1) := by decide +kernel
theorem dL_rule_13 : decode cL_rule 13 = .ok (.lastore, 1) := by decide +kernel
theorem dL_rule_14 : decode cL_rule 14 = .ok (.goto 7, 3) := by decide +kernel
theorem dL_rule_17 : decode cL_rule 17 = .ok (.astore 6, 2) := by decide +kernel
theorem dL_rule_19 : decode cL_rule 19 = .ok (.iconst 1, 1) := by decide +kernel
theorem dL_rule_20 : decode cL_rule 20 = .ok (.ireturn, 1) := by decide +kernel
theorem dL_rule_21 : decode cL_rule 21 = .ok (.iconst 0, 1) := by decide +kernel
theorem dL_rule_22 : decode cL_rule 22 = .ok (.ireturn, 1) := by decide +kernel
theorem dL_look_0 : decode cL_look 0 = .ok (.aload 4, 2) := by decide +kernel
theorem dL_look_2 : decode cL_look 2 = .ok (.iconst 0, 1) := by decide +kernel
theorem dL_look_3 : decode cL_look 3 = .ok (.aload_n 0, 1) := by decide +kernel
theorem dL_look_4 : decode cL_look 4 = .ok (.iload_n 1, 1) := by decide +kernel
theorem dL_look_5 : decode cL_look 5 = .ok (.iload_n 2, 1) := by decide +kernel
theorem dL_look_6 : decode cL_look 6 = .ok (.iload_n 3, 1) := by decide +kernel
theorem dL_look_7 : decode cL_look 7 = .ok (.invokevirtual 108, 3) := by decide +kernel
theorem dL_look_10 : decode cL_look 10 = .ok (.i2l, 1) := by decide +kernel
theorem dL_look_11 : decode cL_look 11 = .ok (.lastore, 1) := by decide +kernel
theorem dL_look_12 : decode cL_look 12 = .ok (.goto 7, 3) := by decide +kernel
theorem dL_look_15 : decode cL_look 15 = .ok (.astore 5, 2) := by decide +kernel
theorem dL_look_17 : decode cL_look 17 = .ok (.iconst 1, 1) := by decide +kernel
theorem dL_look_18 : decode cL_look 18 = .ok (.ireturn, 1) := by decide +kernel
theorem dL_look_19 : decode cL_look 19 = .ok (.iconst 0, 1) := by decide +kernel
theorem dL_look_20 : decode cL_look 20 = .ok (.ireturn, 1) := by decide +kernel
theorem dL_night_0 : decode cL_night 0 = .ok (.aload 4, 2) := by decide +kernel
theorem dL_night_2 : decode cL_night 2 = .ok (.iconst 0, 1) := by decide +kernel
theorem dL_night_3 : decode cL_night 3 = .ok (.aload_n 0, 1) := by decide +kernel
theorem dL_night_4 : decode cL_night 4 = .ok (.iload_n 1, 1) := by decide +kernel
theorem dL_night_5 : decode cL_night 5 = .ok (.iload_n 2, 1) := by decide +kernel
theorem dL_night_6 : decode cL_night 6 = .ok (.iload_n 3, 1) := by decide +kernel
theorem dL_night_7 : decode cL_night 7 = .ok (.invokevirtual 112, 3) := by decide +kernel
theorem dL_night_10 : decode cL_night 10 = .ok (.i2l, 1) := by decide +kernel
theorem dL_night_11 : decode cL_night 11 = .ok (.lastore, 1) := by decide +kernel
theorem dL_night_12 : decode cL_night 12 = .ok (.goto 7, 3) := by decide +kernel
theorem dL_night_15 : decode cL_night 15 = .ok (.astore 5, 2) := by decide +kernel
theorem dL_night_17 : decode cL_night 17 = .ok (.iconst 1, 1) := by decide +kernel
theorem dL_night_18 : decode cL_night 18 = .ok (.ireturn, 1) := by decide +kernel
theorem dL_night_19 : decode cL_night 19 = .ok (.iconst 0, 1) := by decide +kernel
theorem dL_night_20 : decode cL_night 20 = .ok (.ireturn, 1) := by decide +kernel
theorem dL_tray_0 : decode cL_tray 0 = .ok (.aload_n 0, 1) := by decide +kernel
theorem dL_tray_1 : decode cL_tray 1 = .ok (.iload_n 1, 1) := by decide +kernel
theorem dL_tray_2 : decode cL_tray 2 = .ok (.iload_n 2, 1) := by decide +kernel
theorem dL_tray_3 : decode cL_tray 3 = .ok (.iload_n 3, 1) := by decide +kernel
theorem dL_tray_4 : decode cL_tray 4 = .ok (.invokevirtual 115, 3) := by decide +kernel
theorem dL_tray_7 : decode cL_tray 7 = .ok (.goto 11, 3) := by decide +kernel
theorem dL_tray_10 : decode cL_tray 10 = .ok (.astore 4, 2) := by decide +kernel
theorem dL_tray_12 : decode cL_tray 12 = .ok (.iconst 1, 1) := by decide +kernel
theorem dL_tray_13 : decode cL_tray 13 = .ok (.ireturn, 1) := by decide +kernel
theorem dL_tray_14 : decode cL_tray 14 = .ok (.astore 4, 2) := by decide +kernel
theorem dL_tray_16 : decode cL_tray 16 = .ok (.iconst 2, 1) := by decide +kernel
theorem dL_tray_17 : decode cL_tray 17 = .ok (.ireturn, 1) := by decide +kernel
theorem dL_tray_18 : decode cL_tray 18 = .ok (.iconst 0, 1) := by decide +kernel
theorem dL_tray_19 : decode cL_tray 19 = .ok (.ireturn, 1) := by decide +kernel
theorem dL_write_0 : decode cL_write 0 = .ok (.aload 5, 2) := by decide +kernel
theorem dL_write_2 : decode cL_write 2 = .ok (.iconst 0, 1) := by decide +kernel
theorem dL_write_3 : decode cL_write 3 = .ok (.aload_n 0, 1) := by decide +kernel
theorem dL_write_4 : decode cL_write 4 = .ok (.iload_n 1, 1) := by decide +kernel
theorem dL_write_5 : decode cL_write 5 = .ok (.iload_n 2, 1) := by decide +kernel
theorem dL_write_6 : decode cL_write 6 = .ok (.lload_n 3, 1) := by decide +kernel
theorem dL_write_7 : decode cL_write 7 = .ok (.invokevirtual 119, 3) := by decide +kernel
theorem dL_write_10 : decode cL_write 10 = .ok (.lastore, 1) := by decide +kernel
theorem dL_write_11 : decode cL_write 11 = .ok (.goto 15, 3) := by decide +kernel
theorem dL_write_14 : decode cL_write 14 = .ok (.astore 6, 2) := by decide +kernel
theorem dL_write_16 : decode cL_write 16 = .ok (.iconst 1, 1) := by decide +kernel
theorem dL_write_17 : decode cL_write 17 = .ok (.ireturn, 1) := by decide +kernel
theorem dL_write_18 : decode cL_write 18 = .ok (.astore 6, 2) := by decide +kernel
theorem dL_write_20 : decode cL_write 20 = .ok (.iconst 2, 1) := by decide +kernel
theorem dL_write_21 : decode cL_write 21 = .ok (.ireturn, 1) := by decide +kernel
theorem dL_write_22 : decode cL_write 22 = .ok (.astore 6, 2) := by decide +kernel
theorem dL_write_24 : decode cL_write 24 = .ok (.iconst 3, 1) := by decide +kernel
theorem dL_write_25 : decode cL_write 25 = .ok (.ireturn, 1) := by decide +kernel
theorem dL_write_26 : decode cL_write 26 = .ok (.iconst 0, 1) := by decide +kernel
theorem dL_write_27 : decode cL_write 27 = .ok (.ireturn, 1) := by decide +kernel
theorem dL_pour_0 : decode cL_pour 0 = .ok (.aload_n 2, 1) := by decide +kernel
theorem dL_pour_1 : decode cL_pour 1 = .ok (.iconst 0, 1) := by decide +kernel
theorem dL_pour_2 : decode cL_pour 2 = .ok (.aload_n 0, 1) := by decide +kernel
theorem dL_pour_3 : decode cL_pour 3 = .ok (.iload_n 1, 1) := by decide +kernel
theorem dL_pour_4 : decode cL_pour 4 = .ok (.invokevirtual 123, 3) := by decide +kernel
theorem dL_pour_7 : decode cL_pour 7 = .ok (.i2l, 1) := by decide +kernel
theorem dL_pour_8 : decode cL_pour 8 = .ok (.lastore, 1) := by decide +kernel
theorem dL_pour_9 : decode cL_pour 9 = .ok (.goto 15, 3) := by decide +kernel
theorem dL_pour_12 : decode cL_pour 12 = .ok (.astore_n 3, 1) := by decide +kernel
theorem dL_pour_13 : decode cL_pour 13 = .ok (.iconst 1, 1) := by decide +kernel
theorem dL_pour_14 : decode cL_pour 14 = .ok (.ireturn, 1) := by decide +kernel
theorem dL_pour_15 : decode cL_pour 15 = .ok (.astore_n 3, 1) := by decide +kernel
theorem dL_pour_16 : decode cL_pour 16 = .ok (.iconst 2, 1) := by decide +kernel
theorem dL_pour_17 : decode cL_pour 17 = .ok (.ireturn, 1) := by decide +kernel
theorem dL_pour_18 : decode cL_pour 18 = .ok (.astore_n 3, 1) := by decide +kernel
theorem dL_pour_19 : decode cL_pour 19 = .ok (.iconst 3, 1) := by decide +kernel
theorem dL_pour_20 : decode cL_pour 20 = .ok (.ireturn, 1) := by decide +kernel
theorem dL_pour_21 : decode cL_pour 21 = .ok (.astore_n 3, 1) := by decide +kernel
theorem dL_pour_22 : decode cL_pour 22 = .ok (.iconst 4, 1) := by decide +kernel
theorem dL_pour_23 : decode cL_pour 23 = .ok (.ireturn, 1) := by decide +kernel
theorem dL_pour_24 : decode cL_pour 24 = .ok (.iconst 0, 1) := by decide +kernel
theorem dL_pour_25 : decode cL_pour 25 = .ok (.ireturn, 1) := by decide +kernel
theorem dL_image_0 : decode cL_image 0 = .ok (.aload_n 0, 1) := by decide +kernel
theorem dL_image_1 : decode cL_image 1 = .ok (.iload_n 1, 1) := by decide +kernel
theorem dL_image_2 : decode cL_image 2 = .ok (.invokevirtual 126, 3) := by decide +kernel
theorem dL_image_5 : decode cL_image 5 = .ok (.goto 6, 3) := by decide +kernel
theorem dL_image_8 : decode cL_image 8 = .ok (.astore_n 2, 1) := by decide +kernel
theorem dL_image_9 : decode cL_image 9 = .ok (.iconst 1, 1) := by decide +kernel
theorem dL_image_10 : decode cL_image 10 = .ok (.ireturn, 1) := by decide +kernel
theorem dL_image_11 : decode cL_image 11 = .ok (.iconst 0, 1) := by decide +kernel
theorem dL_image_12 : decode cL_image 12 = .ok (.ireturn, 1) := by decide +kernel
theorem dL_restore_0 : decode cL_restore 0 = .ok (.aload_n 0, 1) := by decide +kernel
theorem dL_restore_1 : decode cL_restore 1 = .ok (.iload_n 1, 1) := by decide +kernel
theorem dL_restore_2 : decode cL_restore 2 = .ok (.invokevirtual 130, 3) := by decide +kernel
theorem dL_restore_5 : decode cL_restore 5 = .ok (.goto 9, 3) := by decide +kernel
theorem dL_restore_8 : decode cL_restore 8 = .ok (.astore_n 2, 1) := by decide +kernel
theorem dL_restore_9 : decode cL_restore 9 = .ok (.iconst 1, 1) := by decide +kernel
theorem dL_restore_10 : decode cL_restore 10 = .ok (.ireturn, 1) := by decide +kernel
theorem dL_restore_11 : decode cL_restore 11 = .ok (.astore_n 2, 1) := by decide +kernel
theorem dL_restore_12 : decode cL_restore 12 = .ok (.iconst 2, 1) := by decide +kernel
theorem dL_restore_13 : decode cL_restore 13 = .ok (.ireturn, 1) := by decide +kernel
theorem dL_restore_14 : decode cL_restore 14 = .ok (.iconst 0, 1) := by decide +kernel
theorem dL_restore_15 : decode cL_restore 15 = .ok (.ireturn, 1) := by decide +kernel
