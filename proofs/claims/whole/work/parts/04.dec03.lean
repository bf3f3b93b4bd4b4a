theorem dX11_never_6 : decode cX11_never 6 = .ok (.getfield 26, 3) := by decide +kernel
theorem dX11_never_9 : decode cX11_never 9 = .ok (.getfield 162, 3) := by decide +kernel
theorem dX11_never_12 : decode cX11_never 12 = .ok (.if_icmp .ge 27, 3) := by decide +kernel
theorem dX11_never_15 : decode cX11_never 15 = .ok (.aload_n 0, 1) := by decide +kernel
theorem dX11_never_16 : decode cX11_never 16 = .ok (.getfield 26, 3) := by decide +kernel
theorem dX11_never_19 : decode cX11_never 19 = .ok (.getfield 156, 3) := by decide +kernel
theorem dX11_never_22 : decode cX11_never 22 = .ok (.iload_n 2, 1) := by decide +kernel
theorem dX11_never_23 : decode cX11_never 23 = .ok (.iaload, 1) := by decide +kernel
theorem dX11_never_24 : decode cX11_never 24 = .ok (.ifCond .ne 9, 3) := by decide +kernel
theorem dX11_never_27 : decode cX11_never 27 = .ok (.iload_n 1, 1) := by decide +kernel
theorem dX11_never_28 : decode cX11_never 28 = .ok (.iconst 1, 1) := by decide +kernel
theorem dX11_never_29 : decode cX11_never 29 = .ok (.iload_n 2, 1) := by decide +kernel
theorem dX11_never_30 : decode cX11_never 30 = .ok (.ishl, 1) := by decide +kernel
theorem dX11_never_31 : decode cX11_never 31 = .ok (.ior, 1) := by decide +kernel
theorem dX11_never_32 : decode cX11_never 32 = .ok (.istore_n 1, 1) := by decide +kernel
theorem dX11_never_33 : decode cX11_never 33 = .ok (.iinc 2 1, 3) := by decide +kernel
theorem dX11_never_36 : decode cX11_never 36 = .ok (.goto (-32), 3) := by decide +kernel
theorem dX11_never_39 : decode cX11_never 39 = .ok (.iload_n 1, 1) := by decide +kernel
theorem dX11_never_40 : decode cX11_never 40 = .ok (.ireturn, 1) := by decide +kernel
theorem dX11_hang_0 : decode cX11_hang 0 = .ok (.aload_n 0, 1) := by decide +kernel
theorem dX11_hang_1 : decode cX11_hang 1 = .ok (.iload_n 1, 1) := by decide +kernel
theorem dX11_hang_2 : decode cX11_hang 2 = .ok (.invokevirtual 153, 3) := by decide +kernel
theorem dX11_hang_5 : decode cX11_hang 5 = .ok (.iload_n 2, 1) := by decide +kernel
theorem dX11_hang_6 : decode cX11_hang 6 = .ok (.iconst (-1), 1) := by decide +kernel
theorem dX11_hang_7 : decode cX11_hang 7 = .ok (.if_icmp .eq 8, 3) := by decide +kernel
theorem dX11_hang_10 : decode cX11_hang 10 = .ok (.aload_n 0, 1) := by decide +kernel
theorem dX11_hang_11 : decode cX11_hang 11 = .ok (.iload_n 2, 1) := by decide +kernel
theorem dX11_hang_12 : decode cX11_hang 12 = .ok (.invokevirtual 147, 3) := by decide +kernel
theorem dX11_hang_15 : decode cX11_hang 15 = .ok (.iload_n 3, 1) := by decide +kernel
theorem dX11_hang_16 : decode cX11_hang 16 = .ok (.i2l, 1) := by decide +kernel
theorem dX11_hang_17 : decode cX11_hang 17 = .ok (.invokestatic 165, 3) := by decide +kernel
theorem dX11_hang_20 : decode cX11_hang 20 = .ok (.ifCond .ne 13, 3) := by decide +kernel
theorem dX11_hang_23 : decode cX11_hang 23 = .ok (.new 106, 3) := by decide +kernel
theorem dX11_hang_26 : decode cX11_hang 26 = .ok (.dup, 1) := by decide +kernel
theorem dX11_hang_27 : decode cX11_hang 27 = .ok (.ldc 169, 2) := by decide +kernel
theorem dX11_hang_29 : decode cX11_hang 29 = .ok (.invokespecial 110, 3) := by decide +kernel
theorem dX11_hang_32 : decode cX11_hang 32 = .ok (.athrow, 1) := by decide +kernel
theorem dX11_hang_33 : decode cX11_hang 33 = .ok (.aload_n 0, 1) := by decide +kernel
theorem dX11_hang_34 : decode cX11_hang 34 = .ok (.getfield 33, 3) := by decide +kernel
theorem dX11_hang_37 : decode cX11_hang 37 = .ok (.getfield 171, 3) := by decide +kernel
theorem dX11_hang_40 : decode cX11_hang 40 = .ok (.iload_n 1, 1) := by decide +kernel
theorem dX11_hang_41 : decode cX11_hang 41 = .ok (.iaload, 1) := by decide +kernel
theorem dX11_hang_42 : decode cX11_hang 42 = .ok (.istore 4, 2) := by decide +kernel
theorem dX11_hang_44 : decode cX11_hang 44 = .ok (.aload_n 0, 1) := by decide +kernel
theorem dX11_hang_45 : decode cX11_hang 45 = .ok (.getfield 33, 3) := by decide +kernel
theorem dX11_hang_48 : decode cX11_hang 48 = .ok (.iload_n 1, 1) := by decide +kernel
theorem dX11_hang_49 : decode cX11_hang 49 = .ok (.iload_n 2, 1) := by decide +kernel
theorem dX11_hang_50 : decode cX11_hang 50 = .ok (.iload_n 3, 1) := by decide +kernel
theorem dX11_hang_51 : decode cX11_hang 51 = .ok (.invokevirtual 172, 3) := by decide +kernel
theorem dX11_hang_54 : decode cX11_hang 54 = .ok (.iload 4, 2) := by decide +kernel
theorem dX11_hang_56 : decode cX11_hang 56 = .ok (.ireturn, 1) := by decide +kernel
theorem dX11_of_0 : decode cX11_of 0 = .ok (.aload_n 0, 1) := by decide +kernel
theorem dX11_of_1 : decode cX11_of 1 = .ok (.iload_n 1, 1) := by decide +kernel
theorem dX11_of_2 : decode cX11_of 2 = .ok (.invokevirtual 153, 3) := by decide +kernel
theorem dX11_of_5 : decode cX11_of 5 = .ok (.iload_n 2, 1) := by decide +kernel
theorem dX11_of_6 : decode cX11_of 6 = .ok (.iconst 0, 1) := by decide +kernel
theorem dX11_of_7 : decode cX11_of 7 = .ok (.iconst 2, 1) := by decide +kernel
theorem dX11_of_8 : decode cX11_of 8 = .ok (.invokestatic 140, 3) := by decide +kernel
theorem dX11_of_11 : decode cX11_of 11 = .ok (.iload_n 2, 1) := by decide +kernel
theorem dX11_of_12 : decode cX11_of 12 = .ok (.ifCond .ne 13, 3) := by decide +kernel
theorem dX11_of_15 : decode cX11_of 15 = .ok (.aload_n 0, 1) := by decide +kernel
theorem dX11_of_16 : decode cX11_of 16 = .ok (.getfield 33, 3) := by decide +kernel
theorem dX11_of_19 : decode cX11_of 19 = .ok (.getfield 171, 3) := by decide +kernel
theorem dX11_of_22 : decode cX11_of 22 = .ok (.iload_n 1, 1) := by decide +kernel
theorem dX11_of_23 : decode cX11_of 23 = .ok (.iaload, 1) := by decide +kernel
theorem dX11_of_24 : decode cX11_of 24 = .ok (.ireturn, 1) := by decide +kernel
theorem dX11_of_25 : decode cX11_of 25 = .ok (.iload_n 2, 1) := by decide +kernel
theorem dX11_of_26 : decode cX11_of 26 = .ok (.iconst 1, 1) := by decide +kernel
theorem dX11_of_27 : decode cX11_of 27 = .ok (.if_icmp .ne 15, 3) := by decide +kernel
theorem dX11_of_30 : decode cX11_of 30 = .ok (.aload_n 0, 1) := by decide +kernel
theorem dX11_of_31 : decode cX11_of 31 = .ok (.getfield 33, 3) := by decide +kernel
theorem dX11_of_34 : decode cX11_of 34 = .ok (.getfield 175, 3) := by decide +kernel
theorem dX11_of_37 : decode cX11_of 37 = .ok (.iload_n 1, 1) := by decide +kernel
theorem dX11_of_38 : decode cX11_of 38 = .ok (.iaload, 1) := by decide +kernel
theorem dX11_of_39 : decode cX11_of 39 = .ok (.goto 12, 3) := by decide +kernel
theorem dX11_of_42 : decode cX11_of 42 = .ok (.aload_n 0, 1) := by decide +kernel
theorem dX11_of_43 : decode cX11_of 43 = .ok (.getfield 26, 3) := by decide +kernel
theorem dX11_of_46 : decode cX11_of 46 = .ok (.getfield 178, 3) := by decide +kernel
theorem dX11_of_49 : decode cX11_of 49 = .ok (.iload_n 1, 1) := by decide +kernel
theorem dX11_of_50 : decode cX11_of 50 = .ok (.iaload, 1) := by decide +kernel
theorem dX11_of_51 : decode cX11_of 51 = .ok (.ireturn, 1) := by decide +kernel
theorem dX11_light_0 : decode cX11_light 0 = .ok (.aload_n 0, 1) := by decide +kernel
theorem dX11_light_1 : decode cX11_light 1 = .ok (.iload_n 1, 1) := by decide +kernel
theorem dX11_light_2 : decode cX11_light 2 = .ok (.invokevirtual 153, 3) := by decide +kernel
theorem dX11_light_5 : decode cX11_light 5 = .ok (.iload_n 2, 1) := by decide +kernel
theorem dX11_light_6 : decode cX11_light 6 = .ok (.invokestatic 181, 3) := by decide +kernel
theorem dX11_light_9 : decode cX11_light 9 = .ok (.aload_n 0, 1) := by decide +kernel
theorem dX11_light_10 : decode cX11_light 10 = .ok (.getfield 26, 3) := by decide +kernel
theorem dX11_light_13 : decode cX11_light 13 = .ok (.aload_n 0, 1) := by decide +kernel
theorem dX11_light_14 : decode cX11_light 14 = .ok (.getfield 59, 3) := by decide +kernel
theorem dX11_light_17 : decode cX11_light 17 = .ok (.aload_n 0, 1) := by decide +kernel
theorem dX11_light_18 : decode cX11_light 18 = .ok (.getfield 33, 3) := by decide +kernel
theorem dX11_light_21 : decode cX11_light 21 = .ok (.getfield 171, 3) := by decide +kernel
theorem dX11_light_24 : decode cX11_light 24 = .ok (.aload_n 0, 1) := by decide +kernel
theorem dX11_light_25 : decode cX11_light 25 = .ok (.getfield 33, 3) := by decide +kernel
theorem dX11_light_28 : decode cX11_light 28 = .ok (.iload_n 2, 1) := by decide +kernel
theorem dX11_light_29 : decode cX11_light 29 = .ok (.invokevirtual 184, 3) := by decide +kernel
theorem dX11_light_32 : decode cX11_light 32 = .ok (.invokevirtual 188, 3) := by decide +kernel
theorem dX11_light_35 : decode cX11_light 35 = .ok (.aload_n 0, 1) := by decide +kernel
theorem dX11_light_36 : decode cX11_light 36 = .ok (.getfield 59, 3) := by decide +kernel
theorem dX11_light_39 : decode cX11_light 39 = .ok (.iload_n 1, 1) := by decide +kernel
theorem dX11_light_40 : decode cX11_light 40 = .ok (.iaload, 1) := by decide +kernel
theorem dX11_light_41 : decode cX11_light 41 = .ok (.ireturn, 1) := by decide +kernel
theorem dX11_by_0 : decode cX11_by 0 = .ok (.aload_n 0, 1) := by decide +kernel
theorem dX11_by_1 : decode cX11_by 1 = .ok (.iload_n 1, 1) := by decide +kernel
theorem dX11_by_2 : decode cX11_by 2 = .ok (.invokevirtual 153, 3) := by decide +kernel
theorem dX11_by_5 : decode cX11_by 5 = .ok (.iload_n 2, 1) := by decide +kernel
theorem dX11_by_6 : decode cX11_by 6 = .ok (.invokestatic 181, 3) := by decide +kernel
theorem dX11_by_9 : decode cX11_by 9 = .ok (.aload_n 0, 1) := by decide +kernel
theorem dX11_by_10 : decode cX11_by 10 = .ok (.getfield 26, 3) := by decide +kernel
theorem dX11_by_13 : decode cX11_by 13 = .ok (.getfield 156, 3) := by decide +kernel
theorem dX11_by_16 : decode cX11_by 16 = .ok (.iload_n 1, 1) := by decide +kernel
theorem dX11_by_17 : decode cX11_by 17 = .ok (.iaload, 1) := by decide +kernel
theorem dX11_by_18 : decode cX11_by 18 = .ok (.aload_n 0, 1) := by decide +kernel
theorem dX11_by_19 : decode cX11_by 19 = .ok (.getfield 33, 3) := by decide +kernel
theorem dX11_by_22 : decode cX11_by 22 = .ok (.iload_n 2, 1) := by decide +kernel
theorem dX11_by_23 : decode cX11_by 23 = .ok (.invokevirtual 184, 3) := by decide +kernel
theorem dX11_by_26 : decode cX11_by 26 = .ok (.iand, 1) := by decide +kernel
theorem dX11_by_27 : decode cX11_by 27 = .ok (.ireturn, 1) := by decide +kernel
theorem dX11_dark_0 : decode cX11_dark 0 = .ok (.iload_n 1, 1) := by decide +kernel
theorem dX11_dark_1 : decode cX11_dark 1 = .ok (.invokestatic 181, 3) := by decide +kernel
theorem dX11_dark_4 : decode cX11_dark 4 = .ok (.aload_n 0, 1) := by decide +kernel
theorem dX11_dark_5 : decode cX11_dark 5 = .ok (.iload_n 1, 1) := by decide +kernel
theorem dX11_dark_6 : decode cX11_dark 6 = .ok (.aload_n 0, 1) := by decide +kernel
theorem dX11_dark_7 : decode cX11_dark 7 = .ok (.getfield 33, 3) := by decide +kernel
theorem dX11_dark_10 : decode cX11_dark 10 = .ok (.iload_n 1, 1) := by decide +kernel
theorem dX11_dark_11 : decode cX11_dark 11 = .ok (.invokevirtual 184, 3) := by decide +kernel
theorem dX11_dark_14 : decode cX11_dark 14 = .ok (.invokevirtual 192, 3) := by decide +kernel
theorem dX11_dark_17 : decode cX11_dark 17 = .ok (.ireturn, 1) := by decide +kernel
theorem dX11_judge_0 : decode cX11_judge 0 = .ok (.iconst 0, 1) := by decide +kernel
theorem dX11_judge_1 : decode cX11_judge 1 = .ok (.istore_n 1, 1) := by decide +kernel
theorem dX11_judge_2 : decode cX11_judge 2 = .ok (.iload_n 1, 1) := by decide +kernel
theorem dX11_judge_3 : decode cX11_judge 3 = .ok (.bipush 24, 2) := by decide +kernel
theorem dX11_judge_5 : decode cX11_judge 5 = .ok (.if_icmp .ge 37, 3) := by decide +kernel
theorem dX11_judge_8 : decode cX11_judge 8 = .ok (.aload_n 0, 1) := by decide +kernel
theorem dX11_judge_9 : decode cX11_judge 9 = .ok (.iload_n 1, 1) := by decide +kernel
theorem dX11_judge_10 : decode cX11_judge 10 = .ok (.aload_n 0, 1) := by decide +kernel
theorem dX11_judge_11 : decode cX11_judge 11 = .ok (.getfield 33, 3) := by decide +kernel
theorem dX11_judge_14 : decode cX11_judge 14 = .ok (.iload_n 1, 1) := by decide +kernel
theorem dX11_judge_15 : decode cX11_judge 15 = .ok (.invokevirtual 184, 3) := by decide +kernel
theorem dX11_judge_18 : decode cX11_judge 18 = .ok (.invokevirtual 192, 3) := by decide +kernel
theorem dX11_judge_21 : decode cX11_judge 21 = .ok (.istore_n 2, 1) := by decide +kernel
theorem dX11_judge_22 : decode cX11_judge 22 = .ok (.iload_n 2, 1) := by decide +kernel
theorem dX11_judge_23 : decode cX11_judge 23 = .ok (.ifCond .eq 13, 3) := by decide +kernel
theorem dX11_judge_26 : decode cX11_judge 26 = .ok (.bipush 100, 2) := by decide +kernel
theorem dX11_judge_28 : decode cX11_judge 28 = .ok (.iload_n 1, 1) := by decide +kernel
theorem dX11_judge_29 : decode cX11_judge 29 = .ok (.imul, 1) := by decide +kernel
theorem dX11_judge_30 : decode cX11_judge 30 = .ok (.iload_n 2, 1) := by decide +kernel
theorem dX11_judge_31 : decode cX11_judge 31 = .ok (.invokestatic 196, 3) := by decide +kernel
theorem dX11_judge_34 : decode cX11_judge 34 = .ok (.iadd, 1) := by decide +kernel
theorem dX11_judge_35 : decode cX11_judge 35 = .ok (.ireturn, 1) := by decide +kernel
theorem dX11_judge_36 : decode cX11_judge 36 = .ok (.iinc 1 1, 3) := by decide +kernel
theorem dX11_judge_39 : decode cX11_judge 39 = .ok (.goto (-37), 3) := by decide +kernel
theorem dX11_judge_42 : decode cX11_judge 42 = .ok (.iconst (-1), 1) := by decide +kernel
theorem dX11_judge_43 : decode cX11_judge 43 = .ok (.ireturn, 1) := by decide +kernel
theorem dX11_out_0 : decode cX11_out 0 = .ok (.aload_n 0, 1) := by decide +kernel
theorem dX11_out_1 : decode cX11_out 1 = .ok (.iload_n 1, 1) := by decide +kernel
theorem dX11_out_2 : decode cX11_out 2 = .ok (.invokevirtual 153, 3) := by decide +kernel
theorem dX11_out_5 : decode cX11_out 5 = .ok (.iload_n 2, 1) := by decide +kernel
theorem dX11_out_6 : decode cX11_out 6 = .ok (.invokestatic 181, 3) := by decide +kernel
theorem dX11_out_9 : decode cX11_out 9 = .ok (.aload_n 0, 1) := by decide +kernel
theorem dX11_out_10 : decode cX11_out 10 = .ok (.iconst 1, 1) := by decide +kernel
theorem dX11_out_11 : decode cX11_out 11 = .ok (.iload_n 1, 1) := by decide +kernel
theorem dX11_out_12 : decode cX11_out 12 = .ok (.ishl, 1) := by decide +kernel
theorem dX11_out_13 : decode cX11_out 13 = .ok (.iload_n 2, 1) := by decide +kernel
theorem dX11_out_14 : decode cX11_out 14 = .ok (.invokevirtual 199, 3) := by decide +kernel
theorem dX11_out_17 : decode cX11_out 17 = .ok (.ireturn, 1) := by decide +kernel
theorem dX11_spare_0 : decode cX11_spare 0 = .ok (.iload_n 1, 1) := by decide +kernel
theorem dX11_spare_1 : decode cX11_spare 1 = .ok (.invokestatic 181, 3) := by decide +kernel
theorem dX11_spare_4 : decode cX11_spare 4 = .ok (.aload_n 0, 1) := by decide +kernel
theorem dX11_spare_5 : decode cX11_spare 5 = .ok (.getfield 33, 3) := by decide +kernel
theorem dX11_spare_8 : decode cX11_spare 8 = .ok (.iload_n 1, 1) := by decide +kernel
theorem dX11_spare_9 : decode cX11_spare 9 = .ok (.invokevirtual 184, 3) := by decide +kernel
theorem dX11_spare_12 : decode cX11_spare 12 = .ok (.istore_n 2, 1) := by decide +kernel
theorem dX11_spare_13 : decode cX11_spare 13 = .ok (.iconst 0, 1) := by decide +kernel
theorem dX11_spare_14 : decode cX11_spare 14 = .ok (.istore_n 3, 1) := by decide +kernel
theorem dX11_spare_15 : decode cX11_spare 15 = .ok (.iconst 0, 1) := by decide +kernel
theorem dX11_spare_16 : decode cX11_spare 16 = .ok (.istore 4, 2) := by decide +kernel
theorem dX11_spare_18 : decode cX11_spare 18 = .ok (.iload 4, 2) := by decide +kernel
theorem dX11_spare_20 : decode cX11_spare 20 = .ok (.aload_n 0, 1) := by decide +kernel
theorem dX11_spare_21 : decode cX11_spare 21 = .ok (.getfield 26, 3) := by decide +kernel
theorem dX11_spare_24 : decode cX11_spare 24 = .ok (.getfield 162, 3) := by decide +kernel
theorem dX11_spare_27 : decode cX11_spare 27 = .ok (.if_icmp .ge 37, 3) := by decide +kernel
theorem dX11_spare_30 : decode cX11_spare 30 = .ok (.iconst 1, 1) := by decide +kernel
theorem dX11_spare_31 : decode cX11_spare 31 = .ok (.iload 4, 2) := by decide +kernel
theorem dX11_spare_33 : decode cX11_spare 33 = .ok (.ishl, 1) := by decide +kernel
theorem dX11_spare_34 : decode cX11_spare 34 = .ok (.istore 5, 2) := by decide +kernel
theorem dX11_spare_36 : decode cX11_spare 36 = .ok (.iload_n 2, 1) := by decide +kernel
theorem dX11_spare_37 : decode cX11_spare 37 = .ok (.iload 5, 2) := by decide +kernel
theorem dX11_spare_39 : decode cX11_spare 39 = .ok (.iand, 1) := by decide +kernel
theorem dX11_spare_40 : decode cX11_spare 40 = .ok (.ifCond .eq 18, 3) := by decide +kernel
theorem dX11_spare_43 : decode cX11_spare 43 = .ok (.aload_n 0, 1) := by decide +kernel
theorem dX11_spare_44 : decode cX11_spare 44 = .ok (.iload 5, 2) := by decide +kernel
theorem dX11_spare_46 : decode cX11_spare 46 = .ok (.iload_n 1, 1) := by decide +kernel
theorem dX11_spare_47 : decode cX11_spare 47 = .ok (.invokevirtual 199, 3) := by decide +kernel
theorem dX11_spare_50 : decode cX11_spare 50 = .ok (.ifCond .ne 8, 3) := by decide +kernel
theorem dX11_spare_53 : decode cX11_spare 53 = .ok (.iload_n 3, 1) := by decide +kernel
theorem dX11_spare_54 : decode cX11_spare 54 = .ok (.iload 5, 2) := by decide +kernel
theorem dX11_spare_56 : decode cX11_spare 56 = .ok (.ior, 1) := by decide +kernel
theorem dX11_spare_57 : decode cX11_spare 57 = .ok (.istore_n 3, 1) := by decide +kernel
theorem dX11_spare_58 : decode cX11_spare 58 = .ok (.iinc 4 1, 3) := by decide +kernel
theorem dX11_spare_61 : decode cX11_spare 61 = .ok (.goto (-43), 3) := by decide +kernel
theorem dX11_spare_64 : decode cX11_spare 64 = .ok (.iload_n 3, 1) := by decide +kernel
theorem dX11_spare_65 : decode cX11_spare 65 = .ok (.ireturn, 1) := by decide +kernel
theorem dX11_angry_0 : decode cX11_angry 0 = .ok (.iload_n 1, 1) := by decide +kernel
theorem dX11_angry_1 : decode cX11_angry 1 = .ok (.invokestatic 181, 3) := by decide +kernel
theorem dX11_angry_4 : decode cX11_angry 4 = .ok (.aload_n 0, 1) := by decide +kernel
theorem dX11_angry_5 : decode cX11_angry 5 = .ok (.getfield 33, 3) := by decide +kernel
theorem dX11_angry_8 : decode cX11_angry 8 = .ok (.iload_n 1, 1) := by decide +kernel
theorem dX11_angry_9 : decode cX11_angry 9 = .ok (.invokevirtual 184, 3) := by decide +kernel
theorem dX11_angry_12 : decode cX11_angry 12 = .ok (.istore_n 2, 1) := by decide +kernel
theorem dX11_angry_13 : decode cX11_angry 13 = .ok (.iconst 0, 1) := by decide +kernel
theorem dX11_angry_14 : decode cX11_angry 14 = .ok (.istore_n 3, 1) := by decide +kernel
theorem dX11_angry_15 : decode cX11_angry 15 = .ok (.iconst 0, 1) := by decide +kernel
theorem dX11_angry_16 : decode cX11_angry 16 = .ok (.istore 4, 2) := by decide +kernel
theorem dX11_angry_18 : decode cX11_angry 18 = .ok (.iload 4, 2) := by decide +kernel
theorem dX11_angry_20 : decode cX11_angry 20 = .ok (.aload_n 0, 1) := by decide +kernel
theorem dX11_angry_21 : decode cX11_angry 21 = .ok (.getfield 26, 3) := by decide +kernel
theorem dX11_angry_24 : decode cX11_angry 24 = .ok (.getfield 162, 3) := by decide +kernel
theorem dX11_angry_27 : decode cX11_angry 27 = .ok (.if_icmp .ge 42, 3) := by decide +kernel
theorem dX11_angry_30 : decode cX11_angry 30 = .ok (.iload_n 2, 1) := by decide +kernel
theorem dX11_angry_31 : decode cX11_angry 31 = .ok (.aload_n 0, 1) := by decide +kernel
theorem dX11_angry_32 : decode cX11_angry 32 = .ok (.getfield 26, 3) := by decide +kernel
theorem dX11_angry_35 : decode cX11_angry 35 = .ok (.getfield 156, 3) := by decide +kernel
theorem dX11_angry_38 : decode cX11_angry 38 = .ok (.iload 4, 2) := by decide +kernel
theorem dX11_angry_40 : decode cX11_angry 40 = .ok (.iaload, 1) := by decide +kernel
theorem dX11_angry_41 : decode cX11_angry 41 = .ok (.iand, 1) := by decide +kernel
theorem dX11_angry_42 : decode cX11_angry 42 = .ok (.aload_n 0, 1) := by decide +kernel
theorem dX11_angry_43 : decode cX11_angry 43 = .ok (.getfield 26, 3) := by decide +kernel
theorem dX11_angry_46 : decode cX11_angry 46 = .ok (.getfield 159, 3) := by decide +kernel
theorem dX11_angry_49 : decode cX11_angry 49 = .ok (.iload 4, 2) := by decide +kernel
theorem dX11_angry_51 : decode cX11_angry 51 = .ok (.iaload, 1) := by decide +kernel
theorem dX11_angry_52 : decode cX11_angry 52 = .ok (.iand, 1) := by decide +kernel
theorem dX11_angry_53 : decode cX11_angry 53 = .ok (.ifCond .eq 10, 3) := by decide +kernel
theorem dX11_angry_56 : decode cX11_angry 56 = .ok (.iload_n 3, 1) := by decide +kernel
theorem dX11_angry_57 : decode cX11_angry 57 = .ok (.iconst 1, 1) := by decide +kernel
theorem dX11_angry_58 : decode cX11_angry 58 = .ok (.iload 4, 2) := by decide +kernel
theorem dX11_angry_60 : decode cX11_angry 60 = .ok (.ishl, 1) := by decide +kernel
theorem dX11_angry_61 : decode cX11_angry 61 = .ok (.ior, 1) := by decide +kernel
theorem dX11_angry_62 : decode cX11_angry 62 = .ok (.istore_n 3, 1) := by decide +kernel
theorem dX11_angry_63 : decode cX11_angry 63 = .ok (.iinc 4 1, 3) := by decide +kernel
theorem dX11_angry_66 : decode cX11_angry 66 = .ok (.goto (-48), 3) := by decide +kernel
theorem dX11_angry_69 : decode cX11_angry 69 = .ok (.iload_n 3, 1) := by decide +kernel
theorem dX11_angry_70 : decode cX11_angry 70 = .ok (.ireturn, 1) := by decide +kernel
theorem dX11_oil_0 : decode cX11_oil 0 = .ok (.iconst 0, 1) := by decide +kernel
theorem dX11_oil_1 : decode cX11_oil 1 = .ok (.istore_n 1, 1) := by decide +kernel
theorem dX11_oil_2 : decode cX11_oil 2 = .ok (.iconst 0, 1) := by decide +kernel
theorem dX11_oil_3 : decode cX11_oil 3 = .ok (.istore_n 2, 1) := by decide +kernel
theorem dX11_oil_4 : decode cX11_oil 4 = .ok (.iload_n 2, 1) := by decide +kernel
theorem dX11_oil_5 : decode cX11_oil 5 = .ok (.aload_n 0, 1) := by decide +kernel
theorem dX11_oil_6 : decode cX11_oil 6 = .ok (.getfield 26, 3) := by decide +kernel
theorem dX11_oil_9 : decode cX11_oil 9 = .ok (.getfield 162, 3) := by decide +kernel
theorem dX11_oil_12 : decode cX11_oil 12 = .ok (.if_icmp .ge 41, 3) := by decide +kernel
theorem dX11_oil_15 : decode cX11_oil 15 = .ok (.iload_n 1, 1) := by decide +kernel
theorem dX11_oil_16 : decode cX11_oil 16 = .ok (.aload_n 0, 1) := by decide +kernel
theorem dX11_oil_17 : decode cX11_oil 17 = .ok (.getfield 26, 3) := by decide +kernel
theorem dX11_oil_20 : decode cX11_oil 20 = .ok (.aload_n 0, 1) := by decide +kernel
theorem dX11_oil_21 : decode cX11_oil 21 = .ok (.getfield 33, 3) := by decide +kernel
theorem dX11_oil_24 : decode cX11_oil 24 = .ok (.getfield 171, 3) := by decide +kernel
theorem dX11_oil_27 : decode cX11_oil 27 = .ok (.iload_n 2, 1) := by decide +kernel
theorem dX11_oil_28 : decode cX11_oil 28 = .ok (.iaload, 1) := by decide +kernel
theorem dX11_oil_29 : decode cX11_oil 29 = .ok (.invokevirtual 202, 3) := by decide +kernel
theorem dX11_oil_32 : decode cX11_oil 32 = .ok (.aload_n 0, 1) := by decide +kernel
theorem dX11_oil_33 : decode cX11_oil 33 = .ok (.getfield 33, 3) := by decide +kernel
theorem dX11_oil_36 : decode cX11_oil 36 = .ok (.getfield 175, 3) := by decide +kernel
theorem dX11_oil_39 : decode cX11_oil 39 = .ok (.iload_n 2, 1) := by decide +kernel
theorem dX11_oil_40 : decode cX11_oil 40 = .ok (.iaload, 1) := by decide +kernel
theorem dX11_oil_41 : decode cX11_oil 41 = .ok (.invokestatic 205, 3) := by decide +kernel
theorem dX11_oil_44 : decode cX11_oil 44 = .ok (.imul, 1) := by decide +kernel
theorem dX11_oil_45 : decode cX11_oil 45 = .ok (.iadd, 1) := by decide +kernel
theorem dX11_oil_46 : decode cX11_oil 46 = .ok (.istore_n 1, 1) := by decide +kernel
theorem dX11_oil_47 : decode cX11_oil 47 = .ok (.iinc 2 1, 3) := by decide +kernel
theorem dX11_oil_50 : decode cX11_oil 50 = .ok (.goto (-46), 3) := by decide +kernel
theorem dX11_oil_53 : decode cX11_oil 53 = .ok (.iload_n 1, 1) := by decide +kernel
theorem dX11_oil_54 : decode cX11_oil 54 = .ok (.ireturn, 1) := by decide +kernel
theorem dX11_lights_0 : decode cX11_lights 0 = .ok (.aload_n 0, 1) := by decide +kernel
theorem dX11_lights_1 : decode cX11_lights 1 = .ok (.iload_n 1, 1) := by decide +kernel
theorem dX11_lights_2 : decode cX11_lights 2 = .ok (.invokevirtual 210, 3) := by decide +kernel
theorem dX11_lights_5 : decode cX11_lights 5 = .ok (.aload_n 0, 1) := by decide +kernel
theorem dX11_lights_6 : decode cX11_lights 6 = .ok (.iload_n 2, 1) := by decide +kernel
theorem dX11_lights_7 : decode cX11_lights 7 = .ok (.invokevirtual 210, 3) := by decide +kernel
theorem dX11_lights_10 : decode cX11_lights 10 = .ok (.iload_n 2, 1) := by decide +kernel
theorem dX11_lights_11 : decode cX11_lights 11 = .ok (.aload_n 0, 1) := by decide +kernel
theorem dX11_lights_12 : decode cX11_lights 12 = .ok (.getfield 26, 3) := by decide +kernel
theorem dX11_lights_15 : decode cX11_lights 15 = .ok (.iload_n 1, 1) := by decide +kernel
theorem dX11_lights_16 : decode cX11_lights 16 = .ok (.invokevirtual 213, 3) := by decide +kernel
theorem dX11_lights_19 : decode cX11_lights 19 = .ok (.iconst (-1), 1) := by decide +kernel
theorem dX11_lights_20 : decode cX11_lights 20 = .ok (.ixor, 1) := by decide +kernel
theorem dX11_lights_21 : decode cX11_lights 21 = .ok (.iand, 1) := by decide +kernel
theorem dX11_lights_22 : decode cX11_lights 22 = .ok (.ifCond .ne 7, 3) := by decide +kernel
theorem dX11_lights_25 : decode cX11_lights 25 = .ok (.iconst 1, 1) := by decide +kernel
theorem dX11_lights_26 : decode cX11_lights 26 = .ok (.goto 4, 3) := by decide +kernel
theorem dX11_lights_29 : decode cX11_lights 29 = .ok (.iconst 0, 1) := by decide +kernel
theorem dX11_lights_30 : decode cX11_lights 30 = .ok (.ireturn, 1) := by decide +kernel
theorem dX11_best_0 : decode cX11_best 0 = .ok (.iload_n 1, 1) := by decide +kernel
theorem dX11_best_1 : decode cX11_best 1 = .ok (.iconst 0, 1) := by decide +kernel
theorem dX11_best_2 : decode cX11_best 2 = .ok (.iconst 3, 1) := by decide +kernel
theorem dX11_best_3 : decode cX11_best 3 = .ok (.invokestatic 140, 3) := by decide +kernel
theorem dX11_best_6 : decode cX11_best 6 = .ok (.aload_n 0, 1) := by decide +kernel
theorem dX11_best_7 : decode cX11_best 7 = .ok (.getfield 26, 3) := by decide +kernel
theorem dX11_best_10 : decode cX11_best 10 = .ok (.invokevirtual 216, 3) := by decide +kernel
theorem dX11_best_13 : decode cX11_best 13 = .ok (.istore_n 2, 1) := by decide +kernel
theorem dX11_best_14 : decode cX11_best 14 = .ok (.iload_n 1, 1) := by decide +kernel
theorem dX11_best_15 : decode cX11_best 15 = .ok (.iconst 3, 1) := by decide +kernel
theorem dX11_best_16 : decode cX11_best 16 = .ok (.if_icmp .ne 25, 3) := by decide +kernel
theorem dX11_best_19 : decode cX11_best 19 = .ok (.aload_n 0, 1) := by decide +kernel
theorem dX11_best_20 : decode cX11_best 20 = .ok (.getfield 66, 3) := by decide +kernel
theorem dX11_best_23 : decode cX11_best 23 = .ok (.aload_n 0, 1) := by decide +kernel
theorem dX11_best_24 : decode cX11_best 24 = .ok (.getfield 26, 3) := by decide +kernel
theorem dX11_best_27 : decode cX11_best 27 = .ok (.getfield 162, 3) := by decide +kernel
theorem dX11_best_30 : decode cX11_best 30 = .ok (.aload_n 0, 1) := by decide +kernel
theorem dX11_best_31 : decode cX11_best 31 = .ok (.getfield 26, 3) := by decide +kernel
theorem dX11_best_34 : decode cX11_best 34 = .ok (.getfield 156, 3) := by decide +kernel
theorem dX11_best_37 : decode cX11_best 37 = .ok (.invokevirtual 220, 3) := by decide +kernel
theorem dX11_best_40 : decode cX11_best 40 = .ok (.ireturn, 1) := by decide +kernel
theorem dX11_best_41 : decode cX11_best 41 = .ok (.iload_n 1, 1) := by decide +kernel
theorem dX11_best_42 : decode cX11_best 42 = .ok (.iconst 2, 1) := by decide +kernel
theorem dX11_best_43 : decode cX11_best 43 = .ok (.if_icmp .ne 45, 3) := by decide +kernel
theorem dX11_best_46 : decode cX11_best 46 = .ok (.aload_n 0, 1) := by decide +kernel
theorem dX11_best_47 : decode cX11_best 47 = .ok (.getfield 66, 3) := by decide +kernel
theorem dX11_best_50 : decode cX11_best 50 = .ok (.aload_n 0, 1) := by decide +kernel
theorem dX11_best_51 : decode cX11_best 51 = .ok (.getfield 26, 3) := by decide +kernel
theorem dX11_best_54 : decode cX11_best 54 = .ok (.getfield 162, 3) := by decide +kernel
theorem dX11_best_57 : decode cX11_best 57 = .ok (.aload_n 0, 1) := by decide +kernel
theorem dX11_best_58 : decode cX11_best 58 = .ok (.getfield 26, 3) := by decide +kernel
theorem dX11_best_61 : decode cX11_best 61 = .ok (.getfield 224, 3) := by decide +kernel
theorem dX11_best_64 : decode cX11_best 64 = .ok (.iload_n 2, 1) := by decide +kernel
theorem dX11_best_65 : decode cX11_best 65 = .ok (.aload_n 0, 1) := by decide +kernel
theorem dX11_best_66 : decode cX11_best 66 = .ok (.getfield 26, 3) := by decide +kernel
theorem dX11_best_69 : decode cX11_best 69 = .ok (.invokevirtual 227, 3) := by decide +kernel
theorem dX11_best_72 : decode cX11_best 72 = .ok (.iconst (-1), 1) := by decide +kernel
theorem dX11_best_73 : decode cX11_best 73 = .ok (.ixor, 1) := by decide +kernel
theorem dX11_best_74 : decode cX11_best 74 = .ok (.iand, 1) := by decide +kernel
theorem dX11_best_75 : decode cX11_best 75 = .ok (.invokevirtual 230, 3) := by decide +kernel
theorem dX11_best_78 : decode cX11_best 78 = .ok (.aload_n 0, 1) := by decide +kernel
theorem dX11_best_79 : decode cX11_best 79 = .ok (.getfield 66, 3) := by decide +kernel
theorem dX11_best_82 : decode cX11_best 82 = .ok (.iload_n 2, 1) := by decide +kernel
theorem dX11_best_83 : decode cX11_best 83 = .ok (.iconst 0, 1) := by decide +kernel
theorem dX11_best_84 : decode cX11_best 84 = .ok (.invokevirtual 234, 3) := by decide +kernel
theorem dX11_best_87 : decode cX11_best 87 = .ok (.ireturn, 1) := by decide +kernel
theorem dX11_best_88 : decode cX11_best 88 = .ok (.aload_n 0, 1) := by decide +kernel
theorem dX11_best_89 : decode cX11_best 89 = .ok (.getfield 66, 3) := by decide +kernel
theorem dX11_best_92 : decode cX11_best 92 = .ok (.aload_n 0, 1) := by decide +kernel
theorem dX11_best_93 : decode cX11_best 93 = .ok (.getfield 26, 3) := by decide +kernel
theorem dX11_best_96 : decode cX11_best 96 = .ok (.getfield 162, 3) := by decide +kernel
theorem dX11_best_99 : decode cX11_best 99 = .ok (.aload_n 0, 1) := by decide +kernel
theorem dX11_best_100 : decode cX11_best 100 = .ok (.getfield 26, 3) := by decide +kernel
theorem dX11_best_103 : decode cX11_best 103 = .ok (.getfield 224, 3) := by decide +kernel
theorem dX11_best_106 : decode cX11_best 106 = .ok (.iload_n 2, 1) := by decide +kernel
theorem dX11_best_107 : decode cX11_best 107 = .ok (.invokevirtual 230, 3) := by decide +kernel
theorem dX11_best_110 : decode cX11_best 110 = .ok (.iload_n 1, 1) := by decide +kernel
theorem dX11_best_111 : decode cX11_best 111 = .ok (.ifCond .ne 15, 3) := by decide +kernel
theorem dX11_best_114 : decode cX11_best 114 = .ok (.aload_n 0, 1) := by decide +kernel
theorem dX11_best_115 : decode cX11_best 115 = .ok (.getfield 66, 3) := by decide +kernel
theorem dX11_best_118 : decode cX11_best 118 = .ok (.iload_n 2, 1) := by decide +kernel
theorem dX11_best_119 : decode cX11_best 119 = .ok (.iconst 0, 1) := by decide +kernel
theorem dX11_best_120 : decode cX11_best 120 = .ok (.invokevirtual 234, 3) := by decide +kernel
theorem dX11_best_123 : decode cX11_best 123 = .ok (.goto 12, 3) := by decide +kernel
theorem dX11_best_126 : decode cX11_best 126 = .ok (.aload_n 0, 1) := by decide +kernel
theorem dX11_best_127 : decode cX11_best 127 = .ok (.getfield 66, 3) := by decide +kernel
theorem dX11_best_130 : decode cX11_best 130 = .ok (.iconst 0, 1) := by decide +kernel
theorem dX11_best_131 : decode cX11_best 131 = .ok (.iload_n 2, 1) := by decide +kernel
theorem dX11_best_132 : decode cX11_best 132 = .ok (.invokevirtual 234, 3) := by decide +kernel
theorem dX11_best_135 : decode cX11_best 135 = .ok (.ireturn, 1) := by decide +kernel
theorem dX11_gap_0 : decode cX11_gap 0 = .ok (.aload_n 0, 1) := by decide +kernel
theorem dX11_gap_1 : decode cX11_gap 1 = .ok (.aload_n 0, 1) := by decide +kernel
theorem dX11_gap_2 : decode cX11_gap 2 = .ok (.getfield 26, 3) := by decide +kernel
theorem dX11_gap_5 : decode cX11_gap 5 = .ok (.invokevirtual 216, 3) := by decide +kernel
theorem dX11_gap_8 : decode cX11_gap 8 = .ok (.invokevirtual 237, 3) := by decide +kernel
theorem dX11_gap_11 : decode cX11_gap 11 = .ok (.istore_n 1, 1) := by decide +kernel
theorem dX11_gap_12 : decode cX11_gap 12 = .ok (.iload_n 1, 1) := by decide +kernel
theorem dX11_gap_13 : decode cX11_gap 13 = .ok (.iconst (-1), 1) := by decide +kernel
theorem dX11_gap_14 : decode cX11_gap 14 = .ok (.if_icmp .ne 5, 3) := by decide +kernel
theorem dX11_gap_17 : decode cX11_gap 17 = .ok (.iconst (-1), 1) := by decide +kernel
theorem dX11_gap_18 : decode cX11_gap 18 = .ok (.ireturn, 1) := by decide +kernel
theorem dX11_gap_19 : decode cX11_gap 19 = .ok (.aload_n 0, 1) := by decide +kernel
theorem dX11_gap_20 : decode cX11_gap 20 = .ok (.getfield 66, 3) := by decide +kernel
theorem dX11_gap_23 : decode cX11_gap 23 = .ok (.aload_n 0, 1) := by decide +kernel
theorem dX11_gap_24 : decode cX11_gap 24 = .ok (.getfield 26, 3) := by decide +kernel
theorem dX11_gap_27 : decode cX11_gap 27 = .ok (.getfield 162, 3) := by decide +kernel
theorem dX11_gap_30 : decode cX11_gap 30 = .ok (.aload_n 0, 1) := by decide +kernel
theorem dX11_gap_31 : decode cX11_gap 31 = .ok (.getfield 26, 3) := by decide +kernel
theorem dX11_gap_34 : decode cX11_gap 34 = .ok (.getfield 156, 3) := by decide +kernel
theorem dX11_gap_37 : decode cX11_gap 37 = .ok (.invokevirtual 220, 3) := by decide +kernel
theorem dX11_gap_40 : decode cX11_gap 40 = .ok (.istore_n 2, 1) := by decide +kernel
theorem dX11_gap_41 : decode cX11_gap 41 = .ok (.iload_n 1, 1) := by decide +kernel
theorem dX11_gap_42 : decode cX11_gap 42 = .ok (.invokestatic 205, 3) := by decide +kernel
theorem dX11_gap_45 : decode cX11_gap 45 = .ok (.iload_n 2, 1) := by decide +kernel
theorem dX11_gap_46 : decode cX11_gap 46 = .ok (.invokestatic 205, 3) := by decide +kernel
theorem dX11_gap_49 : decode cX11_gap 49 = .ok (.isub, 1) := by decide +kernel
theorem dX11_gap_50 : decode cX11_gap 50 = .ok (.ireturn, 1) := by decide +kernel
theorem dX11_bright_0 : decode cX11_bright 0 = .ok (.aload_n 0, 1) := by decide +kernel
theorem dX11_bright_1 : decode cX11_bright 1 = .ok (.iload_n 1, 1) := by decide +kernel
theorem dX11_bright_2 : decode cX11_bright 2 = .ok (.invokevirtual 147, 3) := by decide +kernel
theorem dX11_bright_5 : decode cX11_bright 5 = .ok (.iload_n 2, 1) := by decide +kernel
theorem dX11_bright_6 : decode cX11_bright 6 = .ok (.invokestatic 181, 3) := by decide +kernel
theorem dX11_bright_9 : decode cX11_bright 9 = .ok (.aload_n 0, 1) := by decide +kernel
theorem dX11_bright_10 : decode cX11_bright 10 = .ok (.getfield 73, 3) := by decide +kernel
theorem dX11_bright_13 : decode cX11_bright 13 = .ok (.aload_n 0, 1) := by decide +kernel
theorem dX11_bright_14 : decode cX11_bright 14 = .ok (.getfield 26, 3) := by decide +kernel
theorem dX11_bright_17 : decode cX11_bright 17 = .ok (.iload_n 1, 1) := by decide +kernel
theorem dX11_bright_18 : decode cX11_bright 18 = .ok (.iload_n 2, 1) := by decide +kernel
theorem dX11_bright_19 : decode cX11_bright 19 = .ok (.invokevirtual 240, 3) := by decide +kernel
theorem dX11_bright_22 : decode cX11_bright 22 = .ok (.ireturn, 1) := by decide +kernel
theorem dX11_always_0 : decode cX11_always 0 = .ok (.aload_n 0, 1) := by decide +kernel
theorem dX11_always_1 : decode cX11_always 1 = .ok (.getfield 26, 3) := by decide +kernel
theorem dX11_always_4 : decode cX11_always 4 = .ok (.invokevirtual 216, 3) := by decide +kernel
theorem dX11_always_7 : decode cX11_always 7 = .ok (.istore_n 1, 1) := by decide +kernel
theorem dX11_always_8 : decode cX11_always 8 = .ok (.aload_n 0, 1) := by decide +kernel
theorem dX11_always_9 : decode cX11_always 9 = .ok (.iload_n 1, 1) := by decide +kernel
theorem dX11_always_10 : decode cX11_always 10 = .ok (.invokevirtual 237, 3) := by decide +kernel
theorem dX11_always_13 : decode cX11_always 13 = .ok (.istore_n 2, 1) := by decide +kernel
theorem dX11_always_14 : decode cX11_always 14 = .ok (.iload_n 2, 1) := by decide +kernel
theorem dX11_always_15 : decode cX11_always 15 = .ok (.iconst (-1), 1) := by decide +kernel
theorem dX11_always_16 : decode cX11_always 16 = .ok (.if_icmp .ne 5, 3) := by decide +kernel
theorem dX11_always_19 : decode cX11_always 19 = .ok (.iconst 0, 1) := by decide +kernel
theorem dX11_always_20 : decode cX11_always 20 = .ok (.ireturn, 1) := by decide +kernel
theorem dX11_always_21 : decode cX11_always 21 = .ok (.iconst 0, 1) := by decide +kernel
theorem dX11_always_22 : decode cX11_always 22 = .ok (.istore_n 3, 1) := by decide +kernel
theorem dX11_always_23 : decode cX11_always 23 = .ok (.iconst 0, 1) := by decide +kernel
theorem dX11_always_24 : decode cX11_always 24 = .ok (.istore 4, 2) := by decide +kernel
theorem dX11_always_26 : decode cX11_always 26 = .ok (.iload 4, 2) := by decide +kernel
theorem dX11_always_28 : decode cX11_always 28 = .ok (.aload_n 0, 1) := by decide +kernel
theorem dX11_always_29 : decode cX11_always 29 = .ok (.getfield 26, 3) := by decide +kernel
theorem dX11_always_32 : decode cX11_always 32 = .ok (.getfield 162, 3) := by decide +kernel
theorem dX11_always_35 : decode cX11_always 35 = .ok (.if_icmp .ge 60, 3) := by decide +kernel
theorem dX11_always_38 : decode cX11_always 38 = .ok (.aload_n 0, 1) := by decide +kernel
theorem dX11_always_39 : decode cX11_always 39 = .ok (.getfield 66, 3) := by decide +kernel
theorem dX11_always_42 : decode cX11_always 42 = .ok (.aload_n 0, 1) := by decide +kernel
theorem dX11_always_43 : decode cX11_always 43 = .ok (.getfield 26, 3) := by decide +kernel
theorem dX11_always_46 : decode cX11_always 46 = .ok (.getfield 162, 3) := by decide +kernel
theorem dX11_always_49 : decode cX11_always 49 = .ok (.aload_n 0, 1) := by decide +kernel
theorem dX11_always_50 : decode cX11_always 50 = .ok (.getfield 26, 3) := by decide +kernel
theorem dX11_always_53 : decode cX11_always 53 = .ok (.getfield 224, 3) := by decide +kernel
theorem dX11_always_56 : decode cX11_always 56 = .ok (.iload_n 1, 1) := by decide +kernel
theorem dX11_always_57 : decode cX11_always 57 = .ok (.iconst 1, 1) := by decide +kernel
theorem dX11_always_58 : decode cX11_always 58 = .ok (.iload 4, 2) := by decide +kernel
theorem dX11_always_60 : decode cX11_always 60 = .ok (.ishl, 1) := by decide +kernel
theorem dX11_always_61 : decode cX11_always 61 = .ok (.iconst (-1), 1) := by decide +kernel
theorem dX11_always_62 : decode cX11_always 62 = .ok (.ixor, 1) := by decide +kernel
theorem dX11_always_63 : decode cX11_always 63 = .ok (.iand, 1) := by decide +kernel
theorem dX11_always_64 : decode cX11_always 64 = .ok (.invokevirtual 230, 3) := by decide +kernel
theorem dX11_always_67 : decode cX11_always 67 = .ok (.aload_n 0, 1) := by decide +kernel
theorem dX11_always_68 : decode cX11_always 68 = .ok (.getfield 66, 3) := by decide +kernel
theorem dX11_always_71 : decode cX11_always 71 = .ok (.iload_n 1, 1) := by decide +kernel
theorem dX11_always_72 : decode cX11_always 72 = .ok (.iload_n 2, 1) := by decide +kernel
theorem dX11_always_73 : decode cX11_always 73 = .ok (.invokestatic 205, 3) := by decide +kernel
theorem dX11_always_76 : decode cX11_always 76 = .ok (.invokevirtual 243, 3) := by decide +kernel
theorem dX11_always_79 : decode cX11_always 79 = .ok (.ifCond .ne 10, 3) := by decide +kernel
theorem dX11_always_82 : decode cX11_always 82 = .ok (.iload_n 3, 1) := by decide +kernel
theorem dX11_always_83 : decode cX11_always 83 = .ok (.iconst 1, 1) := by decide +kernel
theorem dX11_always_84 : decode cX11_always 84 = .ok (.iload 4, 2) := by decide +kernel
theorem dX11_always_86 : decode cX11_always 86 = .ok (.ishl, 1) := by decide +kernel
theorem dX11_always_87 : decode cX11_always 87 = .ok (.ior, 1) := by decide +kernel
theorem dX11_always_88 : decode cX11_always 88 = .ok (.istore_n 3, 1) := by decide +kernel
theorem dX11_always_89 : decode cX11_always 89 = .ok (.iinc 4 1, 3) := by decide +kernel
theorem dX11_always_92 : decode cX11_always 92 = .ok (.goto (-66), 3) := by decide +kernel
theorem dX11_always_95 : decode cX11_always 95 = .ok (.iload_n 3, 1) := by decide +kernel
theorem dX11_always_96 : decode cX11_always 96 = .ok (.ireturn, 1) := by decide +kernel
theorem dX11_ever_0 : decode cX11_ever 0 = .ok (.aload_n 0, 1) := by decide +kernel
theorem dX11_ever_1 : decode cX11_ever 1 = .ok (.getfield 26, 3) := by decide +kernel
theorem dX11_ever_4 : decode cX11_ever 4 = .ok (.invokevirtual 216, 3) := by decide +kernel
theorem dX11_ever_7 : decode cX11_ever 7 = .ok (.istore_n 1, 1) := by decide +kernel
theorem dX11_ever_8 : decode cX11_ever 8 = .ok (.aload_n 0, 1) := by decide +kernel
theorem dX11_ever_9 : decode cX11_ever 9 = .ok (.iload_n 1, 1) := by decide +kernel
theorem dX11_ever_10 : decode cX11_ever 10 = .ok (.invokevirtual 237, 3) := by decide +kernel
theorem dX11_ever_13 : decode cX11_ever 13 = .ok (.istore_n 2, 1) := by decide +kernel
theorem dX11_ever_14 : decode cX11_ever 14 = .ok (.iload_n 2, 1) := by decide +kernel
theorem dX11_ever_15 : decode cX11_ever 15 = .ok (.iconst (-1), 1) := by decide +kernel
theorem dX11_ever_16 : decode cX11_ever 16 = .ok (.if_icmp .ne 5, 3) := by decide +kernel
theorem dX11_ever_19 : decode cX11_ever 19 = .ok (.iconst 0, 1) := by decide +kernel
theorem dX11_ever_20 : decode cX11_ever 20 = .ok (.ireturn, 1) := by decide +kernel
theorem dX11_ever_21 : decode cX11_ever 21 = .ok (.iconst 0, 1) := by decide +kernel
theorem dX11_ever_22 : decode cX11_ever 22 = .ok (.istore_n 3, 1) := by decide +kernel
theorem dX11_ever_23 : decode cX11_ever 23 = .ok (.iconst 0, 1) := by decide +kernel
theorem dX11_ever_24 : decode cX11_ever 24 = .ok (.istore 4, 2) := by decide +kernel
theorem dX11_ever_26 : decode cX11_ever 26 = .ok (.iload 4, 2) := by decide +kernel
theorem dX11_ever_28 : decode cX11_ever 28 = .ok (.aload_n 0, 1) := by decide +kernel
theorem dX11_ever_29 : decode cX11_ever 29 = .ok (.getfield 26, 3) := by decide +kernel
theorem dX11_ever_32 : decode cX11_ever 32 = .ok (.getfield 162, 3) := by decide +kernel
theorem dX11_ever_35 : decode cX11_ever 35 = .ok (.if_icmp .ge 46, 3) := by decide +kernel
theorem dX11_ever_38 : decode cX11_ever 38 = .ok (.aload_n 0, 1) := by decide +kernel
theorem dX11_ever_39 : decode cX11_ever 39 = .ok (.getfield 66, 3) := by decide +kernel
theorem dX11_ever_42 : decode cX11_ever 42 = .ok (.iload_n 1, 1) := by decide +kernel
theorem dX11_ever_43 : decode cX11_ever 43 = .ok (.aload_n 0, 1) := by decide +kernel
theorem dX11_ever_44 : decode cX11_ever 44 = .ok (.getfield 26, 3) := by decide +kernel
theorem dX11_ever_47 : decode cX11_ever 47 = .ok (.getfield 224, 3) := by decide +kernel
theorem dX11_ever_50 : decode cX11_ever 50 = .ok (.iload 4, 2) := by decide +kernel
theorem dX11_ever_52 : decode cX11_ever 52 = .ok (.iaload, 1) := by decide +kernel
theorem dX11_ever_53 : decode cX11_ever 53 = .ok (.iconst (-1), 1) := by decide +kernel
theorem dX11_ever_54 : decode cX11_ever 54 = .ok (.ixor, 1) := by decide +kernel
theorem dX11_ever_55 : decode cX11_ever 55 = .ok (.iand, 1) := by decide +kernel
theorem dX11_ever_56 : decode cX11_ever 56 = .ok (.iload_n 2, 1) := by decide +kernel
theorem dX11_ever_57 : decode cX11_ever 57 = .ok (.invokestatic 205, 3) := by decide +kernel
theorem dX11_ever_60 : decode cX11_ever 60 = .ok (.iconst 1, 1) := by decide +kernel
theorem dX11_ever_61 : decode cX11_ever 61 = .ok (.isub, 1) := by decide +kernel
theorem dX11_ever_62 : decode cX11_ever 62 = .ok (.invokevirtual 243, 3) := by decide +kernel
theorem dX11_ever_65 : decode cX11_ever 65 = .ok (.ifCond .eq 10, 3) := by decide +kernel
theorem dX11_ever_68 : decode cX11_ever 68 = .ok (.iload_n 3, 1) := by decide +kernel
theorem dX11_ever_69 : decode cX11_ever 69 = .ok (.iconst 1, 1) := by decide +kernel
theorem dX11_ever_70 : decode cX11_ever 70 = .ok (.iload 4, 2) := by decide +kernel
theorem dX11_ever_72 : decode cX11_ever 72 = .ok (.ishl, 1) := by decide +kernel
theorem dX11_ever_73 : decode cX11_ever 73 = .ok (.ior, 1) := by decide +kernel
theorem dX11_ever_74 : decode cX11_ever 74 = .ok (.istore_n 3, 1) := by decide +kernel
theorem dX11_ever_75 : decode cX11_ever 75 = .ok (.iinc 4 1, 3) := by decide +kernel
theorem dX11_ever_78 : decode cX11_ever 78 = .ok (.goto (-52), 3) := by decide +kernel
theorem dX11_ever_81 : decode cX11_ever 81 = .ok (.iload_n 3, 1) := by decide +kernel
theorem dX11_ever_82 : decode cX11_ever 82 = .ok (.ireturn, 1) := by decide +kernel
theorem dX11_barred_0 : decode cX11_barred 0 = .ok (.aload_n 0, 1) := by decide +kernel
theorem dX11_barred_1 : decode cX11_barred 1 = .ok (.iload_n 1, 1) := by decide +kernel
theorem dX11_barred_2 : decode cX11_barred 2 = .ok (.invokevirtual 153, 3) := by decide +kernel
theorem dX11_barred_5 : decode cX11_barred 5 = .ok (.aload_n 0, 1) := by decide +kernel
theorem dX11_barred_6 : decode cX11_barred 6 = .ok (.aload_n 0, 1) := by decide +kernel
theorem dX11_barred_7 : decode cX11_barred 7 = .ok (.getfield 26, 3) := by decide +kernel
theorem dX11_barred_10 : decode cX11_barred 10 = .ok (.invokevirtual 216, 3) := by decide +kernel
theorem dX11_barred_13 : decode cX11_barred 13 = .ok (.iconst 1, 1) := by decide +kernel
theorem dX11_barred_14 : decode cX11_barred 14 = .ok (.iload_n 1, 1) := by decide +kernel
theorem dX11_barred_15 : decode cX11_barred 15 = .ok (.ishl, 1) := by decide +kernel
theorem dX11_barred_16 : decode cX11_barred 16 = .ok (.iconst (-1), 1) := by decide +kernel
theorem dX11_barred_17 : decode cX11_barred 17 = .ok (.ixor, 1) := by decide +kernel
theorem dX11_barred_18 : decode cX11_barred 18 = .ok (.iand, 1) := by decide +kernel
theorem dX11_barred_19 : decode cX11_barred 19 = .ok (.invokevirtual 237, 3) := by decide +kernel
theorem dX11_barred_22 : decode cX11_barred 22 = .ok (.istore_n 2, 1) := by decide +kernel
theorem dX11_barred_23 : decode cX11_barred 23 = .ok (.iload_n 2, 1) := by decide +kernel
theorem dX11_barred_24 : decode cX11_barred 24 = .ok (.iconst (-1), 1) := by decide +kernel
theorem dX11_barred_25 : decode cX11_barred 25 = .ok (.if_icmp .ne 7, 3) := by decide +kernel
theorem dX11_barred_28 : decode cX11_barred 28 = .ok (.iconst (-1), 1) := by decide +kernel
theorem dX11_barred_29 : decode cX11_barred 29 = .ok (.goto 7, 3) := by decide +kernel
theorem dX11_barred_32 : decode cX11_barred 32 = .ok (.iload_n 2, 1) := by decide +kernel
theorem dX11_barred_33 : decode cX11_barred 33 = .ok (.invokestatic 205, 3) := by decide +kernel
theorem dX11_barred_36 : decode cX11_barred 36 = .ok (.ireturn, 1) := by decide +kernel
theorem dX11_day_0 : decode cX11_day 0 = .ok (.aload_n 0, 1) := by decide +kernel
theorem dX11_day_1 : decode cX11_day 1 = .ok (.iload_n 1, 1) := by decide +kernel
theorem dX11_day_2 : decode cX11_day 2 = .ok (.invokevirtual 147, 3) := by decide +kernel
theorem dX11_day_5 : decode cX11_day 5 = .ok (.aload_n 0, 1) := by decide +kernel
theorem dX11_day_6 : decode cX11_day 6 = .ok (.getfield 73, 3) := by decide +kernel
theorem dX11_day_9 : decode cX11_day 9 = .ok (.aload_n 0, 1) := by decide +kernel
theorem dX11_day_10 : decode cX11_day 10 = .ok (.getfield 26, 3) := by decide +kernel
theorem dX11_day_13 : decode cX11_day 13 = .ok (.iload_n 1, 1) := by decide +kernel
theorem dX11_day_14 : decode cX11_day 14 = .ok (.invokevirtual 247, 3) := by decide +kernel
theorem dX11_day_17 : decode cX11_day 17 = .ok (.istore_n 2, 1) := by decide +kernel
theorem dX11_day_18 : decode cX11_day 18 = .ok (.iload_n 2, 1) := by decide +kernel
theorem dX11_day_19 : decode cX11_day 19 = .ok (.iconst (-1), 1) := by decide +kernel
theorem dX11_day_20 : decode cX11_day 20 = .ok (.if_icmp .ne 7, 3) := by decide +kernel
theorem dX11_day_23 : decode cX11_day 23 = .ok (.iconst (-1), 1) := by decide +kernel
theorem dX11_day_24 : decode cX11_day 24 = .ok (.goto 13, 3) := by decide +kernel
theorem dX11_day_27 : decode cX11_day 27 = .ok (.iload_n 2, 1) := by decide +kernel
theorem dX11_day_28 : decode cX11_day 28 = .ok (.aload_n 0, 1) := by decide +kernel
theorem dX11_day_29 : decode cX11_day 29 = .ok (.getfield 26, 3) := by decide +kernel
theorem dX11_day_32 : decode cX11_day 32 = .ok (.iload_n 1, 1) := by decide +kernel
theorem dX11_day_33 : decode cX11_day 33 = .ok (.invokevirtual 202, 3) := by decide +kernel
theorem dX11_day_36 : decode cX11_day 36 = .ok (.imul, 1) := by decide +kernel
theorem dX11_day_37 : decode cX11_day 37 = .ok (.ireturn, 1) := by decide +kernel
theorem dX11_mixed_0 : decode cX11_mixed 0 = .ok (.iload_n 1, 1) := by decide +kernel
theorem dX11_mixed_1 : decode cX11_mixed 1 = .ok (.invokestatic 181, 3) := by decide +kernel
theorem dX11_mixed_4 : decode cX11_mixed 4 = .ok (.aload_n 0, 1) := by decide +kernel
theorem dX11_mixed_5 : decode cX11_mixed 5 = .ok (.getfield 26, 3) := by decide +kernel
theorem dX11_mixed_8 : decode cX11_mixed 8 = .ok (.getfield 162, 3) := by decide +kernel
theorem dX11_mixed_11 : decode cX11_mixed 11 = .ok (.bipush 8, 2) := by decide +kernel
theorem dX11_mixed_13 : decode cX11_mixed 13 = .ok (.if_icmp .le 13, 3) := by decide +kernel
theorem dX11_mixed_16 : decode cX11_mixed 16 = .ok (.new 106, 3) := by decide +kernel
theorem dX11_mixed_19 : decode cX11_mixed 19 = .ok (.dup, 1) := by decide +kernel
theorem dX11_mixed_20 : decode cX11_mixed 20 = .ok (.ldc 251, 2) := by decide +kernel
theorem dX11_mixed_22 : decode cX11_mixed 22 = .ok (.invokespecial 110, 3) := by decide +kernel
theorem dX11_mixed_25 : decode cX11_mixed 25 = .ok (.athrow, 1) := by decide +kernel
theorem dX11_mixed_26 : decode cX11_mixed 26 = .ok (.iload_n 2, 1) := by decide +kernel
theorem dX11_mixed_27 : decode cX11_mixed 27 = .ok (.bipush (-2), 2) := by decide +kernel
theorem dX11_mixed_29 : decode cX11_mixed 29 = .ok (.aload_n 0, 1) := by decide +kernel
theorem dX11_mixed_30 : decode cX11_mixed 30 = .ok (.getfield 26, 3) := by decide +kernel
theorem dX11_mixed_33 : decode cX11_mixed 33 = .ok (.getfield 162, 3) := by decide +kernel
theorem dX11_mixed_36 : decode cX11_mixed 36 = .ok (.iconst 1, 1) := by decide +kernel
theorem dX11_mixed_37 : decode cX11_mixed 37 = .ok (.isub, 1) := by decide +kernel
theorem dX11_mixed_38 : decode cX11_mixed 38 = .ok (.invokestatic 140, 3) := by decide +kernel
theorem dX11_mixed_41 : decode cX11_mixed 41 = .ok (.aload_n 0, 1) := by decide +kernel
theorem dX11_mixed_42 : decode cX11_mixed 42 = .ok (.getfield 80, 3) := by decide +kernel
theorem dX11_mixed_45 : decode cX11_mixed 45 = .ok (.aload_n 0, 1) := by decide +kernel
theorem dX11_mixed_46 : decode cX11_mixed 46 = .ok (.getfield 26, 3) := by decide +kernel
theorem dX11_mixed_49 : decode cX11_mixed 49 = .ok (.iload_n 1, 1) := by decide +kernel
theorem dX11_mixed_50 : decode cX11_mixed 50 = .ok (.invokevirtual 253, 3) := by decide +kernel
theorem dX11_mixed_53 : decode cX11_mixed 53 = .ok (.ifCond .ne 5, 3) := by decide +kernel
theorem dX11_mixed_56 : decode cX11_mixed 56 = .ok (.iconst (-1), 1) := by decide +kernel
theorem dX11_mixed_57 : decode cX11_mixed 57 = .ok (.ireturn, 1) := by decide +kernel
theorem dX11_mixed_58 : decode cX11_mixed 58 = .ok (.iload_n 2, 1) := by decide +kernel
theorem dX11_mixed_59 : decode cX11_mixed 59 = .ok (.bipush (-2), 2) := by decide +kernel
theorem dX11_mixed_61 : decode cX11_mixed 61 = .ok (.if_icmp .ne 11, 3) := by decide +kernel
theorem dX11_mixed_64 : decode cX11_mixed 64 = .ok (.aload_n 0, 1) := by decide +kernel
theorem dX11_mixed_65 : decode cX11_mixed 65 = .ok (.getfield 80, 3) := by decide +kernel
theorem dX11_mixed_68 : decode cX11_mixed 68 = .ok (.getfield 257, 3) := by decide +kernel
theorem dX11_mixed_71 : decode cX11_mixed 71 = .ok (.ireturn, 1) := by decide +kernel
theorem dX11_mixed_72 : decode cX11_mixed 72 = .ok (.iload_n 2, 1) := by decide +kernel
theorem dX11_mixed_73 : decode cX11_mixed 73 = .ok (.iconst (-1), 1) := by decide +kernel
theorem dX11_mixed_74 : decode cX11_mixed 74 = .ok (.if_icmp .ne 13, 3) := by decide +kernel
theorem dX11_mixed_77 : decode cX11_mixed 77 = .ok (.aload_n 0, 1) := by decide +kernel
theorem dX11_mixed_78 : decode cX11_mixed 78 = .ok (.getfield 80, 3) := by decide +kernel
theorem dX11_mixed_81 : decode cX11_mixed 81 = .ok (.getfield 260, 3) := by decide +kernel
theorem dX11_mixed_84 : decode cX11_mixed 84 = .ok (.goto 12, 3) := by decide +kernel
theorem dX11_mixed_87 : decode cX11_mixed 87 = .ok (.aload_n 0, 1) := by decide +kernel
theorem dX11_mixed_88 : decode cX11_mixed 88 = .ok (.getfield 80, 3) := by decide +kernel
theorem dX11_mixed_91 : decode cX11_mixed 91 = .ok (.getfield 263, 3) := by decide +kernel
theorem dX11_mixed_94 : decode cX11_mixed 94 = .ok (.iload_n 2, 1) := by decide +kernel
theorem dX11_mixed_95 : decode cX11_mixed 95 = .ok (.iaload, 1) := by decide +kernel
theorem dX11_mixed_96 : decode cX11_mixed 96 = .ok (.ireturn, 1) := by decide +kernel
theorem dX11_grid_0 : decode cX11_grid 0 = .ok (.iload_n 1, 1) := by decide +kernel
theorem dX11_grid_1 : decode cX11_grid 1 = .ok (.iconst 1, 1) := by decide +kernel
theorem dX11_grid_2 : decode cX11_grid 2 = .ok (.if_icmp .lt 28, 3) := by decide +kernel
theorem dX11_grid_5 : decode cX11_grid 5 = .ok (.iload_n 2, 1) := by decide +kernel
theorem dX11_grid_6 : decode cX11_grid 6 = .ok (.iconst 1, 1) := by decide +kernel
theorem dX11_grid_7 : decode cX11_grid 7 = .ok (.if_icmp .lt 23, 3) := by decide +kernel
theorem dX11_grid_10 : decode cX11_grid 10 = .ok (.iload_n 1, 1) := by decide +kernel
theorem dX11_grid_11 : decode cX11_grid 11 = .ok (.bipush 16, 2) := by decide +kernel
theorem dX11_grid_13 : decode cX11_grid 13 = .ok (.if_icmp .gt 17, 3) := by decide +kernel
theorem dX11_grid_16 : decode cX11_grid 16 = .ok (.iload_n 2, 1) := by decide +kernel
theorem dX11_grid_17 : decode cX11_grid 17 = .ok (.bipush 16, 2) := by decide +kernel
theorem dX11_grid_19 : decode cX11_grid 19 = .ok (.if_icmp .gt 11, 3) := by decide +kernel
theorem dX11_grid_22 : decode cX11_grid 22 = .ok (.iload_n 1, 1) := by decide +kernel
theorem dX11_grid_23 : decode cX11_grid 23 = .ok (.iload_n 2, 1) := by decide +kernel
theorem dX11_grid_24 : decode cX11_grid 24 = .ok (.imul, 1) := by decide +kernel
theorem dX11_grid_25 : decode cX11_grid 25 = .ok (.bipush 16, 2) := by decide +kernel
theorem dX11_grid_27 : decode cX11_grid 27 = .ok (.if_icmp .le 14, 3) := by decide +kernel
theorem dX11_grid_30 : decode cX11_grid 30 = .ok (.new 106, 3) := by decide +kernel
theorem dX11_grid_33 : decode cX11_grid 33 = .ok (.dup, 1) := by decide +kernel
theorem dX11_grid_34 : decode cX11_grid 34 = .ok (.ldc_w 266, 3) := by decide +kernel
theorem dX11_grid_37 : decode cX11_grid 37 = .ok (.invokespecial 110, 3) := by decide +kernel
theorem dX11_grid_40 : decode cX11_grid 40 = .ok (.athrow, 1) := by decide +kernel
theorem dX11_grid_41 : decode cX11_grid 41 = .ok (.bipush 16, 2) := by decide +kernel
theorem dX11_grid_43 : decode cX11_grid 43 = .ok (.newarray .int, 2) := by decide +kernel
theorem dX11_grid_45 : decode cX11_grid 45 = .ok (.astore_n 3, 1) := by decide +kernel
theorem dX11_grid_46 : decode cX11_grid 46 = .ok (.iconst 0, 1) := by decide +kernel
theorem dX11_grid_47 : decode cX11_grid 47 = .ok (.istore 4, 2) := by decide +kernel
theorem dX11_grid_49 : decode cX11_grid 49 = .ok (.iload 4, 2) := by decide +kernel
theorem dX11_grid_51 : decode cX11_grid 51 = .ok (.iload_n 1, 1) := by decide +kernel
theorem dX11_grid_52 : decode cX11_grid 52 = .ok (.iload_n 2, 1) := by decide +kernel
theorem dX11_grid_53 : decode cX11_grid 53 = .ok (.imul, 1) := by decide +kernel
theorem dX11_grid_54 : decode cX11_grid 54 = .ok (.if_icmp .ge 91, 3) := by decide +kernel
theorem dX11_grid_57 : decode cX11_grid 57 = .ok (.iload 4, 2) := by decide +kernel
theorem dX11_grid_59 : decode cX11_grid 59 = .ok (.iload_n 1, 1) := by decide +kernel
theorem dX11_grid_60 : decode cX11_grid 60 = .ok (.irem, 1) := by decide +kernel
theorem dX11_grid_61 : decode cX11_grid 61 = .ok (.istore 5, 2) := by decide +kernel
theorem dX11_grid_63 : decode cX11_grid 63 = .ok (.aload_n 3, 1) := by decide +kernel
theorem dX11_grid_64 : decode cX11_grid 64 = .ok (.iload 4, 2) := by decide +kernel
theorem dX11_grid_66 : decode cX11_grid 66 = .ok (.iload 5, 2) := by decide +kernel
theorem dX11_grid_68 : decode cX11_grid 68 = .ok (.ifCond .le 12, 3) := by decide +kernel
theorem dX11_grid_71 : decode cX11_grid 71 = .ok (.iconst 1, 1) := by decide +kernel
theorem dX11_grid_72 : decode cX11_grid 72 = .ok (.iload 4, 2) := by decide +kernel
theorem dX11_grid_74 : decode cX11_grid 74 = .ok (.iconst 1, 1) := by decide +kernel
theorem dX11_grid_75 : decode cX11_grid 75 = .ok (.isub, 1) := by decide +kernel
theorem dX11_grid_76 : decode cX11_grid 76 = .ok (.ishl, 1) := by decide +kernel
theorem dX11_grid_77 : decode cX11_grid 77 = .ok (.goto 4, 3) := by decide +kernel
theorem dX11_grid_80 : decode cX11_grid 80 = .ok (.iconst 0, 1) := by decide +kernel
theorem dX11_grid_81 : decode cX11_grid 81 = .ok (.iload 5, 2) := by decide +kernel
theorem dX11_grid_83 : decode cX11_grid 83 = .ok (.iload_n 1, 1) := by decide +kernel
theorem dX11_grid_84 : decode cX11_grid 84 = .ok (.iconst 1, 1) := by decide +kernel
theorem dX11_grid_85 : decode cX11_grid 85 = .ok (.isub, 1) := by decide +kernel
theorem dX11_grid_86 : decode cX11_grid 86 = .ok (.if_icmp .ge 12, 3) := by decide +kernel
theorem dX11_grid_89 : decode cX11_grid 89 = .ok (.iconst 1, 1) := by decide +kernel
theorem dX11_grid_90 : decode cX11_grid 90 = .ok (.iload 4, 2) := by decide +kernel
theorem dX11_grid_92 : decode cX11_grid 92 = .ok (.iconst 1, 1) := by decide +kernel
theorem dX11_grid_93 : decode cX11_grid 93 = .ok (.iadd, 1) := by decide +kernel
theorem dX11_grid_94 : decode cX11_grid 94 = .ok (.ishl, 1) := by decide +kernel
theorem dX11_grid_95 : decode cX11_grid 95 = .ok (.goto 4, 3) := by decide +kernel
theorem dX11_grid_98 : decode cX11_grid 98 = .ok (.iconst 0, 1) := by decide +kernel
theorem dX11_grid_99 : decode cX11_grid 99 = .ok (.ior, 1) := by decide +kernel
theorem dX11_grid_100 : decode cX11_grid 100 = .ok (.iload 4, 2) := by decide +kernel
theorem dX11_grid_102 : decode cX11_grid 102 = .ok (.iload_n 1, 1) := by decide +kernel
theorem dX11_grid_103 : decode cX11_grid 103 = .ok (.if_icmp .lt 12, 3) := by decide +kernel
theorem dX11_grid_106 : decode cX11_grid 106 = .ok (.iconst 1, 1) := by decide +kernel
theorem dX11_grid_107 : decode cX11_grid 107 = .ok (.iload 4, 2) := by decide +kernel
theorem dX11_grid_109 : decode cX11_grid 109 = .ok (.iload_n 1, 1) := by decide +kernel
theorem dX11_grid_110 : decode cX11_grid 110 = .ok (.isub, 1) := by decide +kernel
theorem dX11_grid_111 : decode cX11_grid 111 = .ok (.ishl, 1) := by decide +kernel
theorem dX11_grid_112 : decode cX11_grid 112 = .ok (.goto 4, 3) := by decide +kernel
theorem dX11_grid_115 : decode cX11_grid 115 = .ok (.iconst 0, 1) := by decide +kernel
theorem dX11_grid_116 : decode cX11_grid 116 = .ok (.ior, 1) := by decide +kernel
theorem dX11_grid_117 : decode cX11_grid 117 = .ok (.iload 4, 2) := by decide +kernel
theorem dX11_grid_119 : decode cX11_grid 119 = .ok (.iload_n 1, 1) := by decide +kernel
theorem dX11_grid_120 : decode cX11_grid 120 = .ok (.iadd, 1) := by decide +kernel
theorem dX11_grid_121 : decode cX11_grid 121 = .ok (.iload_n 1, 1) := by decide +kernel
theorem dX11_grid_122 : decode cX11_grid 122 = .ok (.iload_n 2, 1) := by decide +kernel
theorem dX11_grid_123 : decode cX11_grid 123 = .ok (.imul, 1) := by decide +kernel
theorem dX11_grid_124 : decode cX11_grid 124 = .ok (.if_icmp .ge 12, 3) := by decide +kernel
theorem dX11_grid_127 : decode cX11_grid 127 = .ok (.iconst 1, 1) := by decide +kernel
theorem dX11_grid_128 : decode cX11_grid 128 = .ok (.iload 4, 2) := by decide +kernel
theorem dX11_grid_130 : decode cX11_grid 130 = .ok (.iload_n 1, 1) := by decide +kernel
theorem dX11_grid_131 : decode cX11_grid 131 = .ok (.iadd, 1) := by decide +kernel
theorem dX11_grid_132 : decode cX11_grid 132 = .ok (.ishl, 1) := by decide +kernel
theorem dX11_grid_133 : decode cX11_grid 133 = .ok (.goto 4, 3) := by decide +kernel
theorem dX11_grid_136 : decode cX11_grid 136 = .ok (.iconst 0, 1) := by decide +kernel
theorem dX11_grid_137 : decode cX11_grid 137 = .ok (.ior, 1) := by decide +kernel
theorem dX11_grid_138 : decode cX11_grid 138 = .ok (.iastore, 1) := by decide +kernel
theorem dX11_grid_139 : decode cX11_grid 139 = .ok (.iinc 4 1, 3) := by decide +kernel
theorem dX11_grid_142 : decode cX11_grid 142 = .ok (.goto (-93), 3) := by decide +kernel
theorem dX11_grid_145 : decode cX11_grid 145 = .ok (.iconst 1, 1) := by decide +kernel
theorem dX11_grid_146 : decode cX11_grid 146 = .ok (.iload_n 1, 1) := by decide +kernel
theorem dX11_grid_147 : decode cX11_grid 147 = .ok (.iload_n 2, 1) := by decide +kernel
theorem dX11_grid_148 : decode cX11_grid 148 = .ok (.imul, 1) := by decide +kernel
theorem dX11_grid_149 : decode cX11_grid 149 = .ok (.ishl, 1) := by decide +kernel
theorem dX11_grid_150 : decode cX11_grid 150 = .ok (.iconst 1, 1) := by decide +kernel
theorem dX11_grid_151 : decode cX11_grid 151 = .ok (.isub, 1) := by decide +kernel
theorem dX11_grid_152 : decode cX11_grid 152 = .ok (.istore 4, 2) := by decide +kernel
theorem dX11_grid_154 : decode cX11_grid 154 = .ok (.aload_n 0, 1) := by decide +kernel
theorem dX11_grid_155 : decode cX11_grid 155 = .ok (.getfield 66, 3) := by decide +kernel
theorem dX11_grid_158 : decode cX11_grid 158 = .ok (.iload_n 1, 1) := by decide +kernel
theorem dX11_grid_159 : decode cX11_grid 159 = .ok (.iload_n 2, 1) := by decide +kernel
theorem dX11_grid_160 : decode cX11_grid 160 = .ok (.imul, 1) := by decide +kernel
theorem dX11_grid_161 : decode cX11_grid 161 = .ok (.aload_n 3, 1) := by decide +kernel
theorem dX11_grid_162 : decode cX11_grid 162 = .ok (.iload 4, 2) := by decide +kernel
theorem dX11_grid_164 : decode cX11_grid 164 = .ok (.invokevirtual 230, 3) := by decide +kernel
theorem dX11_grid_167 : decode cX11_grid 167 = .ok (.aload_n 0, 1) := by decide +kernel
theorem dX11_grid_168 : decode cX11_grid 168 = .ok (.getfield 66, 3) := by decide +kernel
theorem dX11_grid_171 : decode cX11_grid 171 = .ok (.iload 4, 2) := by decide +kernel
theorem dX11_grid_173 : decode cX11_grid 173 = .ok (.iconst 0, 1) := by decide +kernel
theorem dX11_grid_174 : decode cX11_grid 174 = .ok (.invokevirtual 234, 3) := by decide +kernel
theorem dX11_grid_177 : decode cX11_grid 177 = .ok (.ireturn, 1) := by decide +kernel
theorem dX11_hole_0 : decode cX11_hole 0 = .ok (.iload_n 1, 1) := by decide +kernel
theorem dX11_hole_1 : decode cX11_hole 1 = .ok (.ifCond .lt 14, 3) := by decide +kernel
theorem dX11_hole_4 : decode cX11_hole 4 = .ok (.iload_n 1, 1) := by decide +kernel
theorem dX11_hole_5 : decode cX11_hole 5 = .ok (.aload_n 0, 1) := by decide +kernel
theorem dX11_hole_6 : decode cX11_hole 6 = .ok (.getfield 26, 3) := by decide +kernel
theorem dX11_hole_9 : decode cX11_hole 9 = .ok (.getfield 268, 3) := by decide +kernel
theorem dX11_hole_12 : decode cX11_hole 12 = .ok (.if_icmp .lt 14, 3) := by decide +kernel
theorem dX11_hole_15 : decode cX11_hole 15 = .ok (.new 135, 3) := by decide +kernel
theorem dX11_hole_18 : decode cX11_hole 18 = .ok (.dup, 1) := by decide +kernel
theorem dX11_hole_19 : decode cX11_hole 19 = .ok (.ldc_w 271, 3) := by decide +kernel
theorem dX11_hole_22 : decode cX11_hole 22 = .ok (.invokespecial 139, 3) := by decide +kernel
theorem dX11_hole_25 : decode cX11_hole 25 = .ok (.athrow, 1) := by decide +kernel
theorem dX11_hole_26 : decode cX11_hole 26 = .ok (.iload_n 2, 1) := by decide +kernel
theorem dX11_hole_27 : decode cX11_hole 27 = .ok (.iconst 0, 1) := by decide +kernel
theorem dX11_hole_28 : decode cX11_hole 28 = .ok (.iconst 4, 1) := by decide +kernel
theorem dX11_hole_29 : decode cX11_hole 29 = .ok (.invokestatic 140, 3) := by decide +kernel
theorem dX11_hole_32 : decode cX11_hole 32 = .ok (.iload_n 2, 1) := by decide +kernel
theorem dX11_hole_33 : decode cX11_hole 33 = .ok (.iconst 4, 1) := by decide +kernel
theorem dX11_hole_34 : decode cX11_hole 34 = .ok (.if_icmp .ne 20, 3) := by decide +kernel
theorem dX11_hole_37 : decode cX11_hole 37 = .ok (.aload_n 0, 1) := by decide +kernel
theorem dX11_hole_38 : decode cX11_hole 38 = .ok (.iload_n 1, 1) := by decide +kernel
theorem dX11_hole_39 : decode cX11_hole 39 = .ok (.aload_n 0, 1) := by decide +kernel
theorem dX11_hole_40 : decode cX11_hole 40 = .ok (.aload_n 0, 1) := by decide +kernel
theorem dX11_hole_41 : decode cX11_hole 41 = .ok (.getfield 26, 3) := by decide +kernel
theorem dX11_hole_44 : decode cX11_hole 44 = .ok (.invokevirtual 216, 3) := by decide +kernel
theorem dX11_hole_47 : decode cX11_hole 47 = .ok (.invokevirtual 237, 3) := by decide +kernel
theorem dX11_hole_50 : decode cX11_hole 50 = .ok (.invokevirtual 273, 3) := by decide +kernel
theorem dX11_hole_53 : decode cX11_hole 53 = .ok (.ireturn, 1) := by decide +kernel
theorem dX11_hole_54 : decode cX11_hole 54 = .ok (.aload_n 0, 1) := by decide +kernel
theorem dX11_hole_55 : decode cX11_hole 55 = .ok (.getfield 26, 3) := by decide +kernel
theorem dX11_hole_58 : decode cX11_hole 58 = .ok (.getfield 276, 3) := by decide +kernel
theorem dX11_hole_61 : decode cX11_hole 61 = .ok (.iload_n 1, 1) := by decide +kernel
theorem dX11_hole_62 : decode cX11_hole 62 = .ok (.iconst 5, 1) := by decide +kernel
theorem dX11_hole_63 : decode cX11_hole 63 = .ok (.imul, 1) := by decide +kernel
theorem dX11_hole_64 : decode cX11_hole 64 = .ok (.iload_n 2, 1) := by decide +kernel
theorem dX11_hole_65 : decode cX11_hole 65 = .ok (.iadd, 1) := by decide +kernel
theorem dX11_hole_66 : decode cX11_hole 66 = .ok (.iaload, 1) := by decide +kernel
theorem dX11_hole_67 : decode cX11_hole 67 = .ok (.ireturn, 1) := by decide +kernel
theorem dX11_which_0 : decode cX11_which 0 = .ok (.aload_n 0, 1) := by decide +kernel
theorem dX11_which_1 : decode cX11_which 1 = .ok (.aload_n 0, 1) := by decide +kernel
theorem dX11_which_2 : decode cX11_which 2 = .ok (.getfield 26, 3) := by decide +kernel
theorem dX11_which_5 : decode cX11_which 5 = .ok (.invokevirtual 216, 3) := by decide +kernel
theorem dX11_which_8 : decode cX11_which 8 = .ok (.invokevirtual 237, 3) := by decide +kernel
theorem dX11_which_11 : decode cX11_which 11 = .ok (.istore_n 1, 1) := by decide +kernel
theorem dX11_which_12 : decode cX11_which 12 = .ok (.iconst 0, 1) := by decide +kernel
theorem dX11_which_13 : decode cX11_which 13 = .ok (.istore_n 2, 1) := by decide +kernel
theorem dX11_which_14 : decode cX11_which 14 = .ok (.iconst (-1), 1) := by decide +kernel
theorem dX11_which_15 : decode cX11_which 15 = .ok (.istore_n 3, 1) := by decide +kernel
theorem dX11_which_16 : decode cX11_which 16 = .ok (.iconst 0, 1) := by decide +kernel
theorem dX11_which_17 : decode cX11_which 17 = .ok (.istore 4, 2) := by decide +kernel
theorem dX11_which_19 : decode cX11_which 19 = .ok (.iload 4, 2) := by decide +kernel
theorem dX11_which_21 : decode cX11_which 21 = .ok (.aload_n 0, 1) := by decide +kernel
theorem dX11_which_22 : decode cX11_which 22 = .ok (.getfield 26, 3) := by decide +kernel
theorem dX11_which_25 : decode cX11_which 25 = .ok (.getfield 268, 3) := by decide +kernel
theorem dX11_which_28 : decode cX11_which 28 = .ok (.if_icmp .ge 73, 3) := by decide +kernel
theorem dX11_which_31 : decode cX11_which 31 = .ok (.aload_n 0, 1) := by decide +kernel
theorem dX11_which_32 : decode cX11_which 32 = .ok (.iload 4, 2) := by decide +kernel
theorem dX11_which_34 : decode cX11_which 34 = .ok (.iload_n 1, 1) := by decide +kernel
theorem dX11_which_35 : decode cX11_which 35 = .ok (.invokevirtual 273, 3) := by decide +kernel
theorem dX11_which_38 : decode cX11_which 38 = .ok (.istore 5, 2) := by decide +kernel
theorem dX11_which_40 : decode cX11_which 40 = .ok (.iload_n 3, 1) := by decide +kernel
theorem dX11_which_41 : decode cX11_which 41 = .ok (.iconst (-1), 1) := by decide +kernel
theorem dX11_which_42 : decode cX11_which 42 = .ok (.if_icmp .eq 33, 3) := by decide +kernel
theorem dX11_which_45 : decode cX11_which 45 = .ok (.iload 5, 2) := by decide +kernel
theorem dX11_which_47 : decode cX11_which 47 = .ok (.iload_n 2, 1) := by decide +kernel
theorem dX11_which_48 : decode cX11_which 48 = .ok (.if_icmp .ne 27, 3) := by decide +kernel
theorem dX11_which_51 : decode cX11_which 51 = .ok (.aload_n 0, 1) := by decide +kernel
theorem dX11_which_52 : decode cX11_which 52 = .ok (.getfield 26, 3) := by decide +kernel
theorem dX11_which_55 : decode cX11_which 55 = .ok (.iload 4, 2) := by decide +kernel
theorem dX11_which_57 : decode cX11_which 57 = .ok (.invokevirtual 279, 3) := by decide +kernel
theorem dX11_which_60 : decode cX11_which 60 = .ok (.aload_n 0, 1) := by decide +kernel
theorem dX11_which_61 : decode cX11_which 61 = .ok (.getfield 26, 3) := by decide +kernel
theorem dX11_which_64 : decode cX11_which 64 = .ok (.iload_n 3, 1) := by decide +kernel
theorem dX11_which_65 : decode cX11_which 65 = .ok (.invokevirtual 279, 3) := by decide +kernel
theorem dX11_which_68 : decode cX11_which 68 = .ok (.if_icmp .ge 7, 3) := by decide +kernel
theorem dX11_which_71 : decode cX11_which 71 = .ok (.iconst 1, 1) := by decide +kernel
theorem dX11_which_72 : decode cX11_which 72 = .ok (.goto 4, 3) := by decide +kernel
theorem dX11_which_75 : decode cX11_which 75 = .ok (.iconst 0, 1) := by decide +kernel
theorem dX11_which_76 : decode cX11_which 76 = .ok (.istore 6, 2) := by decide +kernel
theorem dX11_which_78 : decode cX11_which 78 = .ok (.iload 5, 2) := by decide +kernel
theorem dX11_which_80 : decode cX11_which 80 = .ok (.iload_n 2, 1) := by decide +kernel
theorem dX11_which_81 : decode cX11_which 81 = .ok (.if_icmp .gt 8, 3) := by decide +kernel
theorem dX11_which_84 : decode cX11_which 84 = .ok (.iload 6, 2) := by decide +kernel
theorem dX11_which_86 : decode cX11_which 86 = .ok (.ifCond .eq 9, 3) := by decide +kernel
theorem dX11_which_89 : decode cX11_which 89 = .ok (.iload 5, 2) := by decide +kernel
theorem dX11_which_91 : decode cX11_which 91 = .ok (.istore_n 2, 1) := by decide +kernel
theorem dX11_which_92 : decode cX11_which 92 = .ok (.iload 4, 2) := by decide +kernel
theorem dX11_which_94 : decode cX11_which 94 = .ok (.istore_n 3, 1) := by decide +kernel
theorem dX11_which_95 : decode cX11_which 95 = .ok (.iinc 4 1, 3) := by decide +kernel
theorem dX11_which_98 : decode cX11_which 98 = .ok (.goto (-79), 3) := by decide +kernel
theorem dX11_which_101 : decode cX11_which 101 = .ok (.iload_n 3, 1) := by decide +kernel
theorem dX11_which_102 : decode cX11_which 102 = .ok (.ireturn, 1) := by decide +kernel
theorem dX11_walk_0 : decode cX11_walk 0 = .ok (.aload_n 0, 1) := by decide +kernel
theorem dX11_walk_1 : decode cX11_walk 1 = .ok (.iload_n 1, 1) := by decide +kernel
theorem dX11_walk_2 : decode cX11_walk 2 = .ok (.invokevirtual 153, 3) := by decide +kernel
theorem dX11_walk_5 : decode cX11_walk 5 = .ok (.aload_n 0, 1) := by decide +kernel
theorem dX11_walk_6 : decode cX11_walk 6 = .ok (.iload_n 2, 1) := by decide +kernel
theorem dX11_walk_7 : decode cX11_walk 7 = .ok (.invokevirtual 153, 3) := by decide +kernel
theorem dX11_walk_10 : decode cX11_walk 10 = .ok (.aload_n 0, 1) := by decide +kernel
theorem dX11_walk_11 : decode cX11_walk 11 = .ok (.getfield 26, 3) := by decide +kernel
theorem dX11_walk_14 : decode cX11_walk 14 = .ok (.getfield 282, 3) := by decide +kernel
theorem dX11_walk_17 : decode cX11_walk 17 = .ok (.iload_n 1, 1) := by decide +kernel
theorem dX11_walk_18 : decode cX11_walk 18 = .ok (.bipush 16, 2) := by decide +kernel
theorem dX11_walk_20 : decode cX11_walk 20 = .ok (.imul, 1) := by decide +kernel
theorem dX11_walk_21 : decode cX11_walk 21 = .ok (.iload_n 2, 1) := by decide +kernel
theorem dX11_walk_22 : decode cX11_walk 22 = .ok (.iadd, 1) := by decide +kernel
theorem dX11_walk_23 : decode cX11_walk 23 = .ok (.iaload, 1) := by decide +kernel
theorem dX11_walk_24 : decode cX11_walk 24 = .ok (.ireturn, 1) := by decide +kernel
theorem dX11_carry_0 : decode cX11_carry 0 = .ok (.iload_n 1, 1) := by decide +kernel
theorem dX11_carry_1 : decode cX11_carry 1 = .ok (.iconst 1, 1) := by decide +kernel
theorem dX11_carry_2 : decode cX11_carry 2 = .ok (.if_icmp .lt 8, 3) := by decide +kernel
theorem dX11_carry_5 : decode cX11_carry 5 = .ok (.iload_n 1, 1) := by decide +kernel
theorem dX11_carry_6 : decode cX11_carry 6 = .ok (.iconst 2, 1) := by decide +kernel
theorem dX11_carry_7 : decode cX11_carry 7 = .ok (.if_icmp .le 14, 3) := by decide +kernel
theorem dX11_carry_10 : decode cX11_carry 10 = .ok (.new 106, 3) := by decide +kernel
theorem dX11_carry_13 : decode cX11_carry 13 = .ok (.dup, 1) := by decide +kernel
theorem dX11_carry_14 : decode cX11_carry 14 = .ok (.ldc_w 285, 3) := by decide +kernel
theorem dX11_carry_17 : decode cX11_carry 17 = .ok (.invokespecial 110, 3) := by decide +kernel
theorem dX11_carry_20 : decode cX11_carry 20 = .ok (.athrow, 1) := by decide +kernel
theorem dX11_carry_21 : decode cX11_carry 21 = .ok (.iload_n 2, 1) := by decide +kernel
theorem dX11_carry_22 : decode cX11_carry 22 = .ok (.invokestatic 181, 3) := by decide +kernel
theorem dX11_carry_25 : decode cX11_carry 25 = .ok (.iload_n 3, 1) := by decide +kernel
theorem dX11_carry_26 : decode cX11_carry 26 = .ok (.invokestatic 181, 3) := by decide +kernel
theorem dX11_carry_29 : decode cX11_carry 29 = .ok (.iload_n 3, 1) := by decide +kernel
theorem dX11_carry_30 : decode cX11_carry 30 = .ok (.iload_n 2, 1) := by decide +kernel
theorem dX11_carry_31 : decode cX11_carry 31 = .ok (.if_icmp .ge 14, 3) := by decide +kernel
theorem dX11_carry_34 : decode cX11_carry 34 = .ok (.new 106, 3) := by decide +kernel
theorem dX11_carry_37 : decode cX11_carry 37 = .ok (.dup, 1) := by decide +kernel
theorem dX11_carry_38 : decode cX11_carry 38 = .ok (.ldc_w 287, 3) := by decide +kernel
theorem dX11_carry_41 : decode cX11_carry 41 = .ok (.invokespecial 110, 3) := by decide +kernel
theorem dX11_carry_44 : decode cX11_carry 44 = .ok (.athrow, 1) := by decide +kernel
theorem dX11_carry_45 : decode cX11_carry 45 = .ok (.iload 4, 2) := by decide +kernel
theorem dX11_carry_47 : decode cX11_carry 47 = .ok (.iconst (-1), 1) := by decide +kernel
theorem dX11_carry_48 : decode cX11_carry 48 = .ok (.iload_n 1, 1) := by decide +kernel
theorem dX11_carry_49 : decode cX11_carry 49 = .ok (.iload_n 3, 1) := by decide +kernel
theorem dX11_carry_50 : decode cX11_carry 50 = .ok (.iload_n 2, 1) := by decide +kernel
theorem dX11_carry_51 : decode cX11_carry 51 = .ok (.isub, 1) := by decide +kernel
theorem dX11_carry_52 : decode cX11_carry 52 = .ok (.iconst 1, 1) := by decide +kernel
theorem dX11_carry_53 : decode cX11_carry 53 = .ok (.iadd, 1) := by decide +kernel
theorem dX11_carry_54 : decode cX11_carry 54 = .ok (.imul, 1) := by decide +kernel
theorem dX11_carry_55 : decode cX11_carry 55 = .ok (.iconst 1, 1) := by decide +kernel
theorem dX11_carry_56 : decode cX11_carry 56 = .ok (.isub, 1) := by decide +kernel
theorem dX11_carry_57 : decode cX11_carry 57 = .ok (.invokestatic 140, 3) := by decide +kernel
theorem dX11_carry_60 : decode cX11_carry 60 = .ok (.aload_n 0, 1) := by decide +kernel
theorem dX11_carry_61 : decode cX11_carry 61 = .ok (.getfield 87, 3) := by decide +kernel
theorem dX11_carry_64 : decode cX11_carry 64 = .ok (.aload_n 0, 1) := by decide +kernel
theorem dX11_carry_65 : decode cX11_carry 65 = .ok (.getfield 26, 3) := by decide +kernel
theorem dX11_carry_68 : decode cX11_carry 68 = .ok (.iload_n 1, 1) := by decide +kernel
theorem dX11_carry_69 : decode cX11_carry 69 = .ok (.iload_n 2, 1) := by decide +kernel
theorem dX11_carry_70 : decode cX11_carry 70 = .ok (.iload_n 3, 1) := by decide +kernel
theorem dX11_carry_71 : decode cX11_carry 71 = .ok (.invokevirtual 289, 3) := by decide +kernel
theorem dX11_carry_74 : decode cX11_carry 74 = .ok (.istore 5, 2) := by decide +kernel
theorem dX11_carry_76 : decode cX11_carry 76 = .ok (.iload 5, 2) := by decide +kernel
theorem dX11_carry_78 : decode cX11_carry 78 = .ok (.iconst (-1), 1) := by decide +kernel
theorem dX11_carry_79 : decode cX11_carry 79 = .ok (.if_icmp .eq 9, 3) := by decide +kernel
theorem dX11_carry_82 : decode cX11_carry 82 = .ok (.iload 4, 2) := by decide +kernel
theorem dX11_carry_84 : decode cX11_carry 84 = .ok (.iconst (-1), 1) := by decide +kernel
theorem dX11_carry_85 : decode cX11_carry 85 = .ok (.if_icmp .ne 6, 3) := by decide +kernel
theorem dX11_carry_88 : decode cX11_carry 88 = .ok (.iload 5, 2) := by decide +kernel
theorem dX11_carry_90 : decode cX11_carry 90 = .ok (.ireturn, 1) := by decide +kernel
theorem dX11_carry_91 : decode cX11_carry 91 = .ok (.aload_n 0, 1) := by decide +kernel
theorem dX11_carry_92 : decode cX11_carry 92 = .ok (.getfield 87, 3) := by decide +kernel
theorem dX11_carry_95 : decode cX11_carry 95 = .ok (.iload 4, 2) := by decide +kernel
theorem dX11_carry_97 : decode cX11_carry 97 = .ok (.iload_n 1, 1) := by decide +kernel
theorem dX11_carry_98 : decode cX11_carry 98 = .ok (.irem, 1) := by decide +kernel
theorem dX11_carry_99 : decode cX11_carry 99 = .ok (.iload_n 2, 1) := by decide +kernel
theorem dX11_carry_100 : decode cX11_carry 100 = .ok (.iload 4, 2) := by decide +kernel
theorem dX11_carry_102 : decode cX11_carry 102 = .ok (.iload_n 1, 1) := by decide +kernel
theorem dX11_carry_103 : decode cX11_carry 103 = .ok (.idiv, 1) := by decide +kernel
theorem dX11_carry_104 : decode cX11_carry 104 = .ok (.iadd, 1) := by decide +kernel
theorem dX11_carry_105 : decode cX11_carry 105 = .ok (.invokevirtual 293, 3) := by decide +kernel
theorem dX11_carry_108 : decode cX11_carry 108 = .ok (.ireturn, 1) := by decide +kernel
theorem dX11_cost_0 : decode cX11_cost 0 = .ok (.aload_n 0, 1) := by decide +kernel
theorem dX11_cost_1 : decode cX11_cost 1 = .ok (.iload_n 1, 1) := by decide +kernel
theorem dX11_cost_2 : decode cX11_cost 2 = .ok (.invokevirtual 210, 3) := by decide +kernel
theorem dX11_cost_5 : decode cX11_cost 5 = .ok (.aload_n 0, 1) := by decide +kernel
theorem dX11_cost_6 : decode cX11_cost 6 = .ok (.getfield 26, 3) := by decide +kernel
theorem dX11_cost_9 : decode cX11_cost 9 = .ok (.getfield 296, 3) := by decide +kernel
theorem dX11_cost_12 : decode cX11_cost 12 = .ok (.iload_n 1, 1) := by decide +kernel
theorem dX11_cost_13 : decode cX11_cost 13 = .ok (.invokestatic 205, 3) := by decide +kernel
theorem dX11_cost_16 : decode cX11_cost 16 = .ok (.imul, 1) := by decide +kernel
theorem dX11_cost_17 : decode cX11_cost 17 = .ok (.aload_n 0, 1) := by decide +kernel
theorem dX11_cost_18 : decode cX11_cost 18 = .ok (.getfield 94, 3) := by decide +kernel
theorem dX11_cost_21 : decode cX11_cost 21 = .ok (.aload_n 0, 1) := by decide +kernel
theorem dX11_cost_22 : decode cX11_cost 22 = .ok (.getfield 26, 3) := by decide +kernel
theorem dX11_cost_25 : decode cX11_cost 25 = .ok (.iload_n 1, 1) := by decide +kernel
theorem dX11_cost_26 : decode cX11_cost 26 = .ok (.invokevirtual 299, 3) := by decide +kernel
theorem dX11_cost_29 : decode cX11_cost 29 = .ok (.isub, 1) := by decide +kernel
theorem dX11_cost_30 : decode cX11_cost 30 = .ok (.ireturn, 1) := by decide +kernel
theorem dX11_owed_0 : decode cX11_owed 0 = .ok (.aload_n 0, 1) := by decide +kernel
theorem dX11_owed_1 : decode cX11_owed 1 = .ok (.iload_n 1, 1) := by decide +kernel
theorem dX11_owed_2 : decode cX11_owed 2 = .ok (.invokevirtual 153, 3) := by decide +kernel
theorem dX11_owed_5 : decode cX11_owed 5 = .ok (.aload_n 0, 1) := by decide +kernel
theorem dX11_owed_6 : decode cX11_owed 6 = .ok (.getfield 26, 3) := by decide +kernel
theorem dX11_owed_9 : decode cX11_owed 9 = .ok (.getfield 162, 3) := by decide +kernel
theorem dX11_owed_12 : decode cX11_owed 12 = .ok (.bipush 10, 2) := by decide +kernel
theorem dX11_owed_14 : decode cX11_owed 14 = .ok (.if_icmp .le 15, 3) := by decide +kernel
theorem dX11_owed_17 : decode cX11_owed 17 = .ok (.aload_n 0, 1) := by decide +kernel
theorem dX11_owed_18 : decode cX11_owed 18 = .ok (.lconst 0, 1) := by decide +kernel
theorem dX11_owed_19 : decode cX11_owed 19 = .ok (.putfield 45, 3) := by decide +kernel
theorem dX11_owed_22 : decode cX11_owed 22 = .ok (.aload_n 0, 1) := by decide +kernel
theorem dX11_owed_23 : decode cX11_owed 23 = .ok (.lconst 0, 1) := by decide +kernel
theorem dX11_owed_24 : decode cX11_owed 24 = .ok (.putfield 49, 3) := by decide +kernel
theorem dX11_owed_27 : decode cX11_owed 27 = .ok (.iconst 0, 1) := by decide +kernel
theorem dX11_owed_28 : decode cX11_owed 28 = .ok (.ireturn, 1) := by decide +kernel
theorem dX11_owed_29 : decode cX11_owed 29 = .ok (.aload_n 0, 1) := by decide +kernel
theorem dX11_owed_30 : decode cX11_owed 30 = .ok (.getfield 94, 3) := by decide +kernel
theorem dX11_owed_33 : decode cX11_owed 33 = .ok (.aload_n 0, 1) := by decide +kernel
theorem dX11_owed_34 : decode cX11_owed 34 = .ok (.getfield 26, 3) := by decide +kernel
theorem dX11_owed_37 : decode cX11_owed 37 = .ok (.iload_n 1, 1) := by decide +kernel
theorem dX11_owed_38 : decode cX11_owed 38 = .ok (.invokevirtual 302, 3) := by decide +kernel
theorem dX11_owed_41 : decode cX11_owed 41 = .ok (.lstore_n 2, 1) := by decide +kernel
theorem dX11_owed_42 : decode cX11_owed 42 = .ok (.aload_n 0, 1) := by decide +kernel
theorem dX11_owed_43 : decode cX11_owed 43 = .ok (.getfield 26, 3) := by decide +kernel
theorem dX11_owed_46 : decode cX11_owed 46 = .ok (.getfield 162, 3) := by decide +kernel
theorem dX11_owed_49 : decode cX11_owed 49 = .ok (.invokestatic 306, 3) := by decide +kernel
theorem dX11_owed_52 : decode cX11_owed 52 = .ok (.lstore 4, 2) := by decide +kernel
theorem dX11_owed_54 : decode cX11_owed 54 = .ok (.lload_n 2, 1) := by decide +kernel
theorem dX11_owed_55 : decode cX11_owed 55 = .ok (.lload 4, 2) := by decide +kernel
theorem dX11_owed_57 : decode cX11_owed 57 = .ok (.invokestatic 310, 3) := by decide +kernel
theorem dX11_owed_60 : decode cX11_owed 60 = .ok (.lstore 6, 2) := by decide +kernel
theorem dX11_owed_62 : decode cX11_owed 62 = .ok (.aload_n 0, 1) := by decide +kernel
theorem dX11_owed_63 : decode cX11_owed 63 = .ok (.lload 6, 2) := by decide +kernel
theorem dX11_owed_65 : decode cX11_owed 65 = .ok (.lconst 0, 1) := by decide +kernel
theorem dX11_owed_66 : decode cX11_owed 66 = .ok (.lcmp, 1) := by decide +kernel
theorem dX11_owed_67 : decode cX11_owed 67 = .ok (.ifCond .le 10, 3) := by decide +kernel
theorem dX11_owed_70 : decode cX11_owed 70 = .ok (.lload_n 2, 1) := by decide +kernel
theorem dX11_owed_71 : decode cX11_owed 71 = .ok (.lload 6, 2) := by decide +kernel
theorem dX11_owed_73 : decode cX11_owed 73 = .ok (.ldiv, 1) := by decide +kernel
theorem dX11_owed_74 : decode cX11_owed 74 = .ok (.goto 4, 3) := by decide +kernel
theorem dX11_owed_77 : decode cX11_owed 77 = .ok (.lload_n 2, 1) := by decide +kernel
theorem dX11_owed_78 : decode cX11_owed 78 = .ok (.putfield 45, 3) := by decide +kernel
theorem dX11_owed_81 : decode cX11_owed 81 = .ok (.aload_n 0, 1) := by decide +kernel
theorem dX11_owed_82 : decode cX11_owed 82 = .ok (.lload 6, 2) := by decide +kernel
theorem dX11_owed_84 : decode cX11_owed 84 = .ok (.lconst 0, 1) := by decide +kernel
theorem dX11_owed_85 : decode cX11_owed 85 = .ok (.lcmp, 1) := by decide +kernel
theorem dX11_owed_86 : decode cX11_owed 86 = .ok (.ifCond .le 11, 3) := by decide +kernel
theorem dX11_owed_89 : decode cX11_owed 89 = .ok (.lload 4, 2) := by decide +kernel
theorem dX11_owed_91 : decode cX11_owed 91 = .ok (.lload 6, 2) := by decide +kernel
theorem dX11_owed_93 : decode cX11_owed 93 = .ok (.ldiv, 1) := by decide +kernel
theorem dX11_owed_94 : decode cX11_owed 94 = .ok (.goto 5, 3) := by decide +kernel
theorem dX11_owed_97 : decode cX11_owed 97 = .ok (.lload 4, 2) := by decide +kernel
theorem dX11_owed_99 : decode cX11_owed 99 = .ok (.putfield 49, 3) := by decide +kernel
theorem dX11_owed_102 : decode cX11_owed 102 = .ok (.iconst 1, 1) := by decide +kernel
theorem dX11_owed_103 : decode cX11_owed 103 = .ok (.ireturn, 1) := by decide +kernel
theorem dX11_upper_0 : decode cX11_upper 0 = .ok (.aload_n 0, 1) := by decide +kernel
theorem dX11_upper_1 : decode cX11_upper 1 = .ok (.getfield 45, 3) := by decide +kernel
theorem dX11_upper_4 : decode cX11_upper 4 = .ok (.lreturn, 1) := by decide +kernel
theorem dX11_lower_0 : decode cX11_lower 0 = .ok (.aload_n 0, 1) := by decide +kernel
theorem dX11_lower_1 : decode cX11_lower 1 = .ok (.getfield 49, 3) := by decide +kernel
theorem dX11_lower_4 : decode cX11_lower 4 = .ok (.lreturn, 1) := by decide +kernel
theorem dX11_sooner_0 : decode cX11_sooner 0 = .ok (.aload_n 0, 1) := by decide +kernel
theorem dX11_sooner_1 : decode cX11_sooner 1 = .ok (.iload_n 1, 1) := by decide +kernel
theorem dX11_sooner_2 : decode cX11_sooner 2 = .ok (.invokevirtual 314, 3) := by decide +kernel
theorem dX11_sooner_5 : decode cX11_sooner 5 = .ok (.aload_n 0, 1) := by decide +kernel
theorem dX11_sooner_6 : decode cX11_sooner 6 = .ok (.getfield 55, 3) := by decide +kernel
theorem dX11_sooner_9 : decode cX11_sooner 9 = .ok (.getfield 317, 3) := by decide +kernel
theorem dX11_sooner_12 : decode cX11_sooner 12 = .ok (.iload_n 1, 1) := by decide +kernel
theorem dX11_sooner_13 : decode cX11_sooner 13 = .ok (.iaload, 1) := by decide +kernel
theorem dX11_sooner_14 : decode cX11_sooner 14 = .ok (.aload_n 0, 1) := by decide +kernel
theorem dX11_sooner_15 : decode cX11_sooner 15 = .ok (.getfield 26, 3) := by decide +kernel
theorem dX11_sooner_18 : decode cX11_sooner 18 = .ok (.getfield 162, 3) := by decide +kernel
theorem dX11_sooner_21 : decode cX11_sooner 21 = .ok (.if_icmp .ge 14, 3) := by decide +kernel
theorem dX11_sooner_24 : decode cX11_sooner 24 = .ok (.new 320, 3) := by decide +kernel
theorem dX11_sooner_27 : decode cX11_sooner 27 = .ok (.dup, 1) := by decide +kernel
theorem dX11_sooner_28 : decode cX11_sooner 28 = .ok (.ldc_w 322, 3) := by decide +kernel
theorem dX11_sooner_31 : decode cX11_sooner 31 = .ok (.invokespecial 324, 3) := by decide +kernel
theorem dX11_sooner_34 : decode cX11_sooner 34 = .ok (.athrow, 1) := by decide +kernel
theorem dX11_sooner_35 : decode cX11_sooner 35 = .ok (.aload_n 0, 1) := by decide +kernel
theorem dX11_sooner_36 : decode cX11_sooner 36 = .ok (.getfield 26, 3) := by decide +kernel
theorem dX11_sooner_39 : decode cX11_sooner 39 = .ok (.getfield 162, 3) := by decide +kernel
theorem dX11_sooner_42 : decode cX11_sooner 42 = .ok (.bipush 10, 2) := by decide +kernel
theorem dX11_sooner_44 : decode cX11_sooner 44 = .ok (.if_icmp .le 14, 3) := by decide +kernel
theorem dX11_sooner_47 : decode cX11_sooner 47 = .ok (.new 106, 3) := by decide +kernel
theorem dX11_sooner_50 : decode cX11_sooner 50 = .ok (.dup, 1) := by decide +kernel
theorem dX11_sooner_51 : decode cX11_sooner 51 = .ok (.ldc_w 325, 3) := by decide +kernel
theorem dX11_sooner_54 : decode cX11_sooner 54 = .ok (.invokespecial 110, 3) := by decide +kernel
theorem dX11_sooner_57 : decode cX11_sooner 57 = .ok (.athrow, 1) := by decide +kernel
theorem dX11_sooner_58 : decode cX11_sooner 58 = .ok (.iconst 0, 1) := by decide +kernel
theorem dX11_sooner_59 : decode cX11_sooner 59 = .ok (.istore_n 2, 1) := by decide +kernel
theorem dX11_sooner_60 : decode cX11_sooner 60 = .ok (.iload_n 2, 1) := by decide +kernel
theorem dX11_sooner_61 : decode cX11_sooner 61 = .ok (.aload_n 0, 1) := by decide +kernel
theorem dX11_sooner_62 : decode cX11_sooner 62 = .ok (.getfield 26, 3) := by decide +kernel
theorem dX11_sooner_65 : decode cX11_sooner 65 = .ok (.getfield 162, 3) := by decide +kernel
theorem dX11_sooner_68 : decode cX11_sooner 68 = .ok (.if_icmp .ge 46, 3) := by decide +kernel
theorem dX11_sooner_71 : decode cX11_sooner 71 = .ok (.aload_n 0, 1) := by decide +kernel
theorem dX11_sooner_72 : decode cX11_sooner 72 = .ok (.getfield 55, 3) := by decide +kernel
theorem dX11_sooner_75 : decode cX11_sooner 75 = .ok (.iload_n 1, 1) := by decide +kernel
theorem dX11_sooner_76 : decode cX11_sooner 76 = .ok (.iload_n 2, 1) := by decide +kernel
theorem dX11_sooner_77 : decode cX11_sooner 77 = .ok (.invokevirtual 327, 3) := by decide +kernel
theorem dX11_sooner_80 : decode cX11_sooner 80 = .ok (.lstore_n 3, 1) := by decide +kernel
theorem dX11_sooner_81 : decode cX11_sooner 81 = .ok (.lload_n 3, 1) := by decide +kernel
theorem dX11_sooner_82 : decode cX11_sooner 82 = .ok (.ldc2_w 331, 3) := by decide +kernel
theorem dX11_sooner_85 : decode cX11_sooner 85 = .ok (.lcmp, 1) := by decide +kernel
theorem dX11_sooner_86 : decode cX11_sooner 86 = .ok (.ifCond .lt 11, 3) := by decide +kernel
theorem dX11_sooner_89 : decode cX11_sooner 89 = .ok (.lload_n 3, 1) := by decide +kernel
theorem dX11_sooner_90 : decode cX11_sooner 90 = .ok (.ldc2_w 333, 3) := by decide +kernel
theorem dX11_sooner_93 : decode cX11_sooner 93 = .ok (.lcmp, 1) := by decide +kernel
theorem dX11_sooner_94 : decode cX11_sooner 94 = .ok (.ifCond .le 14, 3) := by decide +kernel
theorem dX11_sooner_97 : decode cX11_sooner 97 = .ok (.new 106, 3) := by decide +kernel
theorem dX11_sooner_100 : decode cX11_sooner 100 = .ok (.dup, 1) := by decide +kernel
theorem dX11_sooner_101 : decode cX11_sooner 101 = .ok (.ldc_w 335, 3) := by decide +kernel
theorem dX11_sooner_104 : decode cX11_sooner 104 = .ok (.invokespecial 110, 3) := by decide +kernel
theorem dX11_sooner_107 : decode cX11_sooner 107 = .ok (.athrow, 1) := by decide +kernel
theorem dX11_sooner_108 : decode cX11_sooner 108 = .ok (.iinc 2 1, 3) := by decide +kernel
theorem dX11_sooner_111 : decode cX11_sooner 111 = .ok (.goto (-51), 3) := by decide +kernel
theorem dX11_sooner_114 : decode cX11_sooner 114 = .ok (.aload_n 0, 1) := by decide +kernel
theorem dX11_sooner_115 : decode cX11_sooner 115 = .ok (.getfield 94, 3) := by decide +kernel
theorem dX11_sooner_118 : decode cX11_sooner 118 = .ok (.aload_n 0, 1) := by decide +kernel
theorem dX11_sooner_119 : decode cX11_sooner 119 = .ok (.getfield 26, 3) := by decide +kernel
theorem dX11_sooner_122 : decode cX11_sooner 122 = .ok (.aload_n 0, 1) := by decide +kernel
theorem dX11_sooner_123 : decode cX11_sooner 123 = .ok (.getfield 55, 3) := by decide +kernel
theorem dX11_sooner_126 : decode cX11_sooner 126 = .ok (.iload_n 1, 1) := by decide +kernel
theorem dX11_sooner_127 : decode cX11_sooner 127 = .ok (.invokevirtual 337, 3) := by decide +kernel
theorem dX11_sooner_130 : decode cX11_sooner 130 = .ok (.ireturn, 1) := by decide +kernel
theorem dX11_round_0 : decode cX11_round 0 = .ok (.aload_n 0, 1) := by decide +kernel
theorem dX11_round_1 : decode cX11_round 1 = .ok (.iload_n 1, 1) := by decide +kernel
theorem dX11_round_2 : decode cX11_round 2 = .ok (.invokevirtual 153, 3) := by decide +kernel
theorem dX11_round_5 : decode cX11_round 5 = .ok (.aload_n 0, 1) := by decide +kernel
theorem dX11_round_6 : decode cX11_round 6 = .ok (.getfield 26, 3) := by decide +kernel
theorem dX11_round_9 : decode cX11_round 9 = .ok (.getfield 162, 3) := by decide +kernel
theorem dX11_round_12 : decode cX11_round 12 = .ok (.bipush 12, 2) := by decide +kernel
theorem dX11_round_14 : decode cX11_round 14 = .ok (.if_icmp .le 14, 3) := by decide +kernel
theorem dX11_round_17 : decode cX11_round 17 = .ok (.new 106, 3) := by decide +kernel
theorem dX11_round_20 : decode cX11_round 20 = .ok (.dup, 1) := by decide +kernel
theorem dX11_round_21 : decode cX11_round 21 = .ok (.ldc_w 341, 3) := by decide +kernel
theorem dX11_round_24 : decode cX11_round 24 = .ok (.invokespecial 110, 3) := by decide +kernel
theorem dX11_round_27 : decode cX11_round 27 = .ok (.athrow, 1) := by decide +kernel
theorem dX11_round_28 : decode cX11_round 28 = .ok (.iload_n 2, 1) := by decide +kernel
theorem dX11_round_29 : decode cX11_round 29 = .ok (.iconst (-1), 1) := by decide +kernel
theorem dX11_round_30 : decode cX11_round 30 = .ok (.if_icmp .ge 14, 3) := by decide +kernel
theorem dX11_round_33 : decode cX11_round 33 = .ok (.new 106, 3) := by decide +kernel
theorem dX11_round_36 : decode cX11_round 36 = .ok (.dup, 1) := by decide +kernel
theorem dX11_round_37 : decode cX11_round 37 = .ok (.ldc_w 343, 3) := by decide +kernel
theorem dX11_round_40 : decode cX11_round 40 = .ok (.invokespecial 110, 3) := by decide +kernel
theorem dX11_round_43 : decode cX11_round 43 = .ok (.athrow, 1) := by decide +kernel
theorem dX11_round_44 : decode cX11_round 44 = .ok (.aload_n 0, 1) := by decide +kernel
theorem dX11_round_45 : decode cX11_round 45 = .ok (.getfield 98, 3) := by decide +kernel
theorem dX11_round_48 : decode cX11_round 48 = .ok (.ifnull 20, 3) := by decide +kernel
theorem dX11_round_51 : decode cX11_round 51 = .ok (.aload_n 0, 1) := by decide +kernel
theorem dX11_round_52 : decode cX11_round 52 = .ok (.getfield 98, 3) := by decide +kernel
theorem dX11_round_55 : decode cX11_round 55 = .ok (.getfield 345, 3) := by decide +kernel
theorem dX11_round_58 : decode cX11_round 58 = .ok (.aload_n 0, 1) := by decide +kernel
theorem dX11_round_59 : decode cX11_round 59 = .ok (.getfield 26, 3) := by decide +kernel
theorem dX11_round_62 : decode cX11_round 62 = .ok (.getfield 162, 3) := by decide +kernel
theorem dX11_round_65 : decode cX11_round 65 = .ok (.if_icmp .ge 21, 3) := by decide +kernel
theorem dX11_round_68 : decode cX11_round 68 = .ok (.aload_n 0, 1) := by decide +kernel
theorem dX11_round_69 : decode cX11_round 69 = .ok (.new 346, 3) := by decide +kernel
theorem dX11_round_72 : decode cX11_round 72 = .ok (.dup, 1) := by decide +kernel
theorem dX11_round_73 : decode cX11_round 73 = .ok (.aload_n 0, 1) := by decide +kernel
theorem dX11_round_74 : decode cX11_round 74 = .ok (.getfield 26, 3) := by decide +kernel
theorem dX11_round_77 : decode cX11_round 77 = .ok (.getfield 162, 3) := by decide +kernel
theorem dX11_round_80 : decode cX11_round 80 = .ok (.invokespecial 348, 3) := by decide +kernel
theorem dX11_round_83 : decode cX11_round 83 = .ok (.putfield 98, 3) := by decide +kernel
theorem dX11_round_86 : decode cX11_round 86 = .ok (.aload_n 0, 1) := by decide +kernel
theorem dX11_round_87 : decode cX11_round 87 = .ok (.getfield 98, 3) := by decide +kernel
theorem dX11_round_90 : decode cX11_round 90 = .ok (.aload_n 0, 1) := by decide +kernel
theorem dX11_round_91 : decode cX11_round 91 = .ok (.getfield 26, 3) := by decide +kernel
theorem dX11_round_94 : decode cX11_round 94 = .ok (.iload_n 1, 1) := by decide +kernel
theorem dX11_round_95 : decode cX11_round 95 = .ok (.invokevirtual 350, 3) := by decide +kernel
theorem dX11_round_98 : decode cX11_round 98 = .ok (.istore_n 3, 1) := by decide +kernel
theorem dX11_round_99 : decode cX11_round 99 = .ok (.iload_n 2, 1) := by decide +kernel
theorem dX11_round_100 : decode cX11_round 100 = .ok (.iconst (-1), 1) := by decide +kernel
theorem dX11_round_101 : decode cX11_round 101 = .ok (.if_icmp .ne 5, 3) := by decide +kernel
theorem dX11_round_104 : decode cX11_round 104 = .ok (.iload_n 3, 1) := by decide +kernel
theorem dX11_round_105 : decode cX11_round 105 = .ok (.ireturn, 1) := by decide +kernel
theorem dX11_round_106 : decode cX11_round 106 = .ok (.iload_n 2, 1) := by decide +kernel
theorem dX11_round_107 : decode cX11_round 107 = .ok (.iload_n 3, 1) := by decide +kernel
theorem dX11_round_108 : decode cX11_round 108 = .ok (.if_icmp .gt 15, 3) := by decide +kernel
theorem dX11_round_111 : decode cX11_round 111 = .ok (.aload_n 0, 1) := by decide +kernel
theorem dX11_round_112 : decode cX11_round 112 = .ok (.getfield 98, 3) := by decide +kernel
theorem dX11_round_115 : decode cX11_round 115 = .ok (.getfield 353, 3) := by decide +kernel
theorem dX11_round_118 : decode cX11_round 118 = .ok (.iload_n 2, 1) := by decide +kernel
theorem dX11_round_119 : decode cX11_round 119 = .ok (.iaload, 1) := by decide +kernel
theorem dX11_round_120 : decode cX11_round 120 = .ok (.goto 4, 3) := by decide +kernel
theorem dX11_round_123 : decode cX11_round 123 = .ok (.iconst (-1), 1) := by decide +kernel
theorem dX11_round_124 : decode cX11_round 124 = .ok (.ireturn, 1) := by decide +kernel
theorem dX11_rule_0 : decode cX11_rule 0 = .ok (.iload_n 1, 1) := by decide +kernel
theorem dX11_rule_1 : decode cX11_rule 1 = .ok (.iload_n 2, 1) := by decide +kernel
theorem dX11_rule_2 : decode cX11_rule 2 = .ok (.invokestatic 356, 3) := by decide +kernel
theorem dX11_rule_5 : decode cX11_rule 5 = .ok (.iload_n 3, 1) := by decide +kernel
theorem dX11_rule_6 : decode cX11_rule 6 = .ok (.iconst 1, 1) := by decide +kernel
theorem dX11_rule_7 : decode cX11_rule 7 = .ok (.if_icmp .lt 22, 3) := by decide +kernel
theorem dX11_rule_10 : decode cX11_rule 10 = .ok (.iload_n 3, 1) := by decide +kernel
theorem dX11_rule_11 : decode cX11_rule 11 = .ok (.bipush 8, 2) := by decide +kernel
theorem dX11_rule_13 : decode cX11_rule 13 = .ok (.if_icmp .gt 16, 3) := by decide +kernel
theorem dX11_rule_16 : decode cX11_rule 16 = .ok (.iload 4, 2) := by decide +kernel
theorem dX11_rule_18 : decode cX11_rule 18 = .ok (.ifCond .lt 11, 3) := by decide +kernel
theorem dX11_rule_21 : decode cX11_rule 21 = .ok (.iload 4, 2) := by decide +kernel
theorem dX11_rule_23 : decode cX11_rule 23 = .ok (.iconst 1, 1) := by decide +kernel
theorem dX11_rule_24 : decode cX11_rule 24 = .ok (.iload_n 3, 1) := by decide +kernel
theorem dX11_rule_25 : decode cX11_rule 25 = .ok (.ishl, 1) := by decide +kernel
theorem dX11_rule_26 : decode cX11_rule 26 = .ok (.if_icmp .lt 14, 3) := by decide +kernel
theorem dX11_rule_29 : decode cX11_rule 29 = .ok (.new 106, 3) := by decide +kernel
theorem dX11_rule_32 : decode cX11_rule 32 = .ok (.dup, 1) := by decide +kernel
theorem dX11_rule_33 : decode cX11_rule 33 = .ok (.ldc_w 360, 3) := by decide +kernel
theorem dX11_rule_36 : decode cX11_rule 36 = .ok (.invokespecial 110, 3) := by decide +kernel
theorem dX11_rule_39 : decode cX11_rule 39 = .ok (.athrow, 1) := by decide +kernel
theorem dX11_rule_40 : decode cX11_rule 40 = .ok (.iload_n 1, 1) := by decide +kernel
theorem dX11_rule_41 : decode cX11_rule 41 = .ok (.iload_n 3, 1) := by decide +kernel
theorem dX11_rule_42 : decode cX11_rule 42 = .ok (.iload 4, 2) := by decide +kernel
theorem dX11_rule_44 : decode cX11_rule 44 = .ok (.invokestatic 362, 3) := by decide +kernel
theorem dX11_rule_47 : decode cX11_rule 47 = .ok (.iload_n 1, 1) := by decide +kernel
theorem dX11_rule_48 : decode cX11_rule 48 = .ok (.iload_n 2, 1) := by decide +kernel
theorem dX11_rule_49 : decode cX11_rule 49 = .ok (.invokestatic 366, 3) := by decide +kernel
theorem dX11_rule_52 : decode cX11_rule 52 = .ok (.lstore 5, 2) := by decide +kernel
theorem dX11_rule_54 : decode cX11_rule 54 = .ok (.lload 5, 2) := by decide +kernel
theorem dX11_rule_56 : decode cX11_rule 56 = .ok (.lconst 0, 1) := by decide +kernel
theorem dX11_rule_57 : decode cX11_rule 57 = .ok (.lcmp, 1) := by decide +kernel
theorem dX11_rule_58 : decode cX11_rule 58 = .ok (.ifCond .ne 7, 3) := by decide +kernel
theorem dX11_rule_61 : decode cX11_rule 61 = .ok (.iconst (-1), 1) := by decide +kernel
theorem dX11_rule_62 : decode cX11_rule 62 = .ok (.goto 14, 3) := by decide +kernel
theorem dX11_rule_65 : decode cX11_rule 65 = .ok (.lload 5, 2) := by decide +kernel
theorem dX11_rule_67 : decode cX11_rule 67 = .ok (.lload 5, 2) := by decide +kernel
theorem dX11_rule_69 : decode cX11_rule 69 = .ok (.lneg, 1) := by decide +kernel
theorem dX11_rule_70 : decode cX11_rule 70 = .ok (.land, 1) := by decide +kernel
theorem dX11_rule_71 : decode cX11_rule 71 = .ok (.lconst 1, 1) := by decide +kernel
theorem dX11_rule_72 : decode cX11_rule 72 = .ok (.lsub, 1) := by decide +kernel
theorem dX11_rule_73 : decode cX11_rule 73 = .ok (.invokestatic 370, 3) := by decide +kernel
theorem dX11_rule_76 : decode cX11_rule 76 = .ok (.ireturn, 1) := by decide +kernel
theorem dX11_look_0 : decode cX11_look 0 = .ok (.iload_n 1, 1) := by decide +kernel
theorem dX11_look_1 : decode cX11_look 1 = .ok (.iload_n 2, 1) := by decide +kernel
theorem dX11_look_2 : decode cX11_look 2 = .ok (.invokestatic 356, 3) := by decide +kernel
theorem dX11_look_5 : decode cX11_look 5 = .ok (.iload_n 3, 1) := by decide +kernel
theorem dX11_look_6 : decode cX11_look 6 = .ok (.iconst 0, 1) := by decide +kernel
theorem dX11_look_7 : decode cX11_look 7 = .ok (.iconst 2, 1) := by decide +kernel
theorem dX11_look_8 : decode cX11_look 8 = .ok (.invokestatic 140, 3) := by decide +kernel
theorem dX11_look_11 : decode cX11_look 11 = .ok (.iload_n 1, 1) := by decide +kernel
theorem dX11_look_12 : decode cX11_look 12 = .ok (.iconst 1, 1) := by decide +kernel
theorem dX11_look_13 : decode cX11_look 13 = .ok (.iadd, 1) := by decide +kernel
theorem dX11_look_14 : decode cX11_look 14 = .ok (.istore 4, 2) := by decide +kernel
theorem dX11_look_16 : decode cX11_look 16 = .ok (.iconst (-1), 1) := by decide +kernel
theorem dX11_look_17 : decode cX11_look 17 = .ok (.istore 5, 2) := by decide +kernel
theorem dX11_look_19 : decode cX11_look 19 = .ok (.iconst (-1), 1) := by decide +kernel
theorem dX11_look_20 : decode cX11_look 20 = .ok (.istore 6, 2) := by decide +kernel
theorem dX11_look_22 : decode cX11_look 22 = .ok (.iconst 1, 1) := by decide +kernel
theorem dX11_look_23 : decode cX11_look 23 = .ok (.istore 7, 2) := by decide +kernel
theorem dX11_look_25 : decode cX11_look 25 = .ok (.iload 7, 2) := by decide +kernel
theorem dX11_look_27 : decode cX11_look 27 = .ok (.bipush 8, 2) := by decide +kernel
theorem dX11_look_29 : decode cX11_look 29 = .ok (.if_icmp .gt 74, 3) := by decide +kernel
theorem dX11_look_32 : decode cX11_look 32 = .ok (.iconst 0, 1) := by decide +kernel
theorem dX11_look_33 : decode cX11_look 33 = .ok (.istore 8, 2) := by decide +kernel
theorem dX11_look_35 : decode cX11_look 35 = .ok (.iload 8, 2) := by decide +kernel
theorem dX11_look_37 : decode cX11_look 37 = .ok (.iconst 1, 1) := by decide +kernel
theorem dX11_look_38 : decode cX11_look 38 = .ok (.iload 7, 2) := by decide +kernel
theorem dX11_look_40 : decode cX11_look 40 = .ok (.ishl, 1) := by decide +kernel
theorem dX11_look_41 : decode cX11_look 41 = .ok (.if_icmp .ge 56, 3) := by decide +kernel
theorem dX11_look_44 : decode cX11_look 44 = .ok (.iload_n 1, 1) := by decide +kernel
theorem dX11_look_45 : decode cX11_look 45 = .ok (.iload 7, 2) := by decide +kernel
theorem dX11_look_47 : decode cX11_look 47 = .ok (.iload 8, 2) := by decide +kernel
theorem dX11_look_49 : decode cX11_look 49 = .ok (.invokestatic 362, 3) := by decide +kernel
theorem dX11_look_52 : decode cX11_look 52 = .ok (.lstore 9, 2) := by decide +kernel
theorem dX11_look_54 : decode cX11_look 54 = .ok (.lload 9, 2) := by decide +kernel
theorem dX11_look_56 : decode cX11_look 56 = .ok (.invokestatic 370, 3) := by decide +kernel
theorem dX11_look_59 : decode cX11_look 59 = .ok (.iload 4, 2) := by decide +kernel
theorem dX11_look_61 : decode cX11_look 61 = .ok (.if_icmp .ge 30, 3) := by decide +kernel
theorem dX11_look_64 : decode cX11_look 64 = .ok (.lload 9, 2) := by decide +kernel
theorem dX11_look_66 : decode cX11_look 66 = .ok (.iload_n 1, 1) := by decide +kernel
theorem dX11_look_67 : decode cX11_look 67 = .ok (.iload_n 2, 1) := by decide +kernel
theorem dX11_look_68 : decode cX11_look 68 = .ok (.invokestatic 366, 3) := by decide +kernel
theorem dX11_look_71 : decode cX11_look 71 = .ok (.lconst 0, 1) := by decide +kernel
theorem dX11_look_72 : decode cX11_look 72 = .ok (.lcmp, 1) := by decide +kernel
theorem dX11_look_73 : decode cX11_look 73 = .ok (.ifCond .ne 18, 3) := by decide +kernel
theorem dX11_look_76 : decode cX11_look 76 = .ok (.lload 9, 2) := by decide +kernel
theorem dX11_look_78 : decode cX11_look 78 = .ok (.invokestatic 370, 3) := by decide +kernel
theorem dX11_look_81 : decode cX11_look 81 = .ok (.istore 4, 2) := by decide +kernel
theorem dX11_look_83 : decode cX11_look 83 = .ok (.iload 7, 2) := by decide +kernel
theorem dX11_look_85 : decode cX11_look 85 = .ok (.istore 5, 2) := by decide +kernel
theorem dX11_look_87 : decode cX11_look 87 = .ok (.iload 8, 2) := by decide +kernel
theorem dX11_look_89 : decode cX11_look 89 = .ok (.istore 6, 2) := by decide +kernel
theorem dX11_look_91 : decode cX11_look 91 = .ok (.iinc 8 1, 3) := by decide +kernel
theorem dX11_look_94 : decode cX11_look 94 = .ok (.goto (-59), 3) := by decide +kernel
theorem dX11_look_97 : decode cX11_look 97 = .ok (.iinc 7 1, 3) := by decide +kernel
theorem dX11_look_100 : decode cX11_look 100 = .ok (.goto (-75), 3) := by decide +kernel
theorem dX11_look_103 : decode cX11_look 103 = .ok (.iload_n 3, 1) := by decide +kernel
theorem dX11_look_104 : decode cX11_look 104 = .ok (.ifCond .ne 16, 3) := by decide +kernel
theorem dX11_look_107 : decode cX11_look 107 = .ok (.iload 5, 2) := by decide +kernel
theorem dX11_look_109 : decode cX11_look 109 = .ok (.iconst (-1), 1) := by decide +kernel
theorem dX11_look_110 : decode cX11_look 110 = .ok (.if_icmp .ne 7, 3) := by decide +kernel
theorem dX11_look_113 : decode cX11_look 113 = .ok (.iconst (-1), 1) := by decide +kernel
theorem dX11_look_114 : decode cX11_look 114 = .ok (.goto 5, 3) := by decide +kernel
theorem dX11_look_117 : decode cX11_look 117 = .ok (.iload 4, 2) := by decide +kernel
theorem dX11_look_119 : decode cX11_look 119 = .ok (.ireturn, 1) := by decide +kernel
theorem dX11_look_120 : decode cX11_look 120 = .ok (.iload_n 3, 1) := by decide +kernel
theorem dX11_look_121 : decode cX11_look 121 = .ok (.iconst 1, 1) := by decide +kernel
theorem dX11_look_122 : decode cX11_look 122 = .ok (.if_icmp .ne 8, 3) := by decide +kernel
theorem dX11_look_125 : decode cX11_look 125 = .ok (.iload 5, 2) := by decide +kernel
theorem dX11_look_127 : decode cX11_look 127 = .ok (.goto 5, 3) := by decide +kernel
theorem dX11_look_130 : decode cX11_look 130 = .ok (.iload 6, 2) := by decide +kernel
theorem dX11_look_132 : decode cX11_look 132 = .ok (.ireturn, 1) := by decide +kernel
theorem dX11_night_0 : decode cX11_night 0 = .ok (.iload_n 2, 1) := by decide +kernel
theorem dX11_night_1 : decode cX11_night 1 = .ok (.ifCond .lt 9, 3) := by decide +kernel
theorem dX11_night_4 : decode cX11_night 4 = .ok (.iload_n 2, 1) := by decide +kernel
theorem dX11_night_5 : decode cX11_night 5 = .ok (.bipush 100, 2) := by decide +kernel
theorem dX11_night_7 : decode cX11_night 7 = .ok (.if_icmp .le 14, 3) := by decide +kernel
theorem dX11_night_10 : decode cX11_night 10 = .ok (.new 106, 3) := by decide +kernel
theorem dX11_night_13 : decode cX11_night 13 = .ok (.dup, 1) := by decide +kernel
theorem dX11_night_14 : decode cX11_night 14 = .ok (.ldc_w 375, 3) := by decide +kernel
theorem dX11_night_17 : decode cX11_night 17 = .ok (.invokespecial 110, 3) := by decide +kernel
theorem dX11_night_20 : decode cX11_night 20 = .ok (.athrow, 1) := by decide +kernel
theorem dX11_night_21 : decode cX11_night 21 = .ok (.iload_n 3, 1) := by decide +kernel
theorem dX11_night_22 : decode cX11_night 22 = .ok (.iconst 0, 1) := by decide +kernel
theorem dX11_night_23 : decode cX11_night 23 = .ok (.iconst 2, 1) := by decide +kernel
theorem dX11_night_24 : decode cX11_night 24 = .ok (.invokestatic 140, 3) := by decide +kernel
theorem dX11_night_27 : decode cX11_night 27 = .ok (.iload_n 1, 1) := by decide +kernel
theorem dX11_night_28 : decode cX11_night 28 = .ok (.istore 4, 2) := by decide +kernel
theorem dX11_night_30 : decode cX11_night 30 = .ok (.iconst 0, 1) := by decide +kernel
theorem dX11_night_31 : decode cX11_night 31 = .ok (.istore 5, 2) := by decide +kernel
theorem dX11_night_33 : decode cX11_night 33 = .ok (.iconst 0, 1) := by decide +kernel
theorem dX11_night_34 : decode cX11_night 34 = .ok (.istore 6, 2) := by decide +kernel
theorem dX11_night_36 : decode cX11_night 36 = .ok (.iconst 0, 1) := by decide +kernel
theorem dX11_night_37 : decode cX11_night 37 = .ok (.istore 7, 2) := by decide +kernel
theorem dX11_night_39 : decode cX11_night 39 = .ok (.iconst 0, 1) := by decide +kernel
theorem dX11_night_40 : decode cX11_night 40 = .ok (.istore 8, 2) := by decide +kernel
theorem dX11_night_42 : decode cX11_night 42 = .ok (.iload 8, 2) := by decide +kernel
theorem dX11_night_44 : decode cX11_night 44 = .ok (.bipush 24, 2) := by decide +kernel
theorem dX11_night_46 : decode cX11_night 46 = .ok (.if_icmp .ge 128, 3) := by decide +kernel
theorem dX11_night_49 : decode cX11_night 49 = .ok (.aload_n 0, 1) := by decide +kernel
theorem dX11_night_50 : decode cX11_night 50 = .ok (.getfield 33, 3) := by decide +kernel
theorem dX11_night_53 : decode cX11_night 53 = .ok (.iload 8, 2) := by decide +kernel
theorem dX11_night_55 : decode cX11_night 55 = .ok (.invokevirtual 184, 3) := by decide +kernel
theorem dX11_night_58 : decode cX11_night 58 = .ok (.istore 9, 2) := by decide +kernel
theorem dX11_night_60 : decode cX11_night 60 = .ok (.iload 9, 2) := by decide +kernel
theorem dX11_night_62 : decode cX11_night 62 = .ok (.istore 10, 2) := by decide +kernel
theorem dX11_night_64 : decode cX11_night 64 = .ok (.iconst 0, 1) := by decide +kernel
theorem dX11_night_65 : decode cX11_night 65 = .ok (.istore 11, 2) := by decide +kernel
theorem dX11_night_67 : decode cX11_night 67 = .ok (.iload 11, 2) := by decide +kernel
theorem dX11_night_69 : decode cX11_night 69 = .ok (.aload_n 0, 1) := by decide +kernel
theorem dX11_night_70 : decode cX11_night 70 = .ok (.getfield 26, 3) := by decide +kernel
theorem dX11_night_73 : decode cX11_night 73 = .ok (.getfield 162, 3) := by decide +kernel
theorem dX11_night_76 : decode cX11_night 76 = .ok (.if_icmp .ge 57, 3) := by decide +kernel
theorem dX11_night_79 : decode cX11_night 79 = .ok (.iload 9, 2) := by decide +kernel
theorem dX11_night_81 : decode cX11_night 81 = .ok (.iload 11, 2) := by decide +kernel
theorem dX11_night_83 : decode cX11_night 83 = .ok (.ishr, 1) := by decide +kernel
theorem dX11_night_84 : decode cX11_night 84 = .ok (.iconst 1, 1) := by decide +kernel
theorem dX11_night_85 : decode cX11_night 85 = .ok (.iand, 1) := by decide +kernel
theorem dX11_night_86 : decode cX11_night 86 = .ok (.ifCond .eq 41, 3) := by decide +kernel
theorem dX11_night_89 : decode cX11_night 89 = .ok (.ldc_w 377, 3) := by decide +kernel
theorem dX11_night_92 : decode cX11_night 92 = .ok (.iload 4, 2) := by decide +kernel
theorem dX11_night_94 : decode cX11_night 94 = .ok (.imul, 1) := by decide +kernel
theorem dX11_night_95 : decode cX11_night 95 = .ok (.sipush 12345, 3) := by decide +kernel
theorem dX11_night_98 : decode cX11_night 98 = .ok (.iadd, 1) := by decide +kernel
theorem dX11_night_99 : decode cX11_night 99 = .ok (.istore 4, 2) := by decide +kernel
theorem dX11_night_101 : decode cX11_night 101 = .ok (.iload 4, 2) := by decide +kernel
theorem dX11_night_103 : decode cX11_night 103 = .ok (.bipush 16, 2) := by decide +kernel
theorem dX11_night_105 : decode cX11_night 105 = .ok (.iushr, 1) := by decide +kernel
theorem dX11_night_106 : decode cX11_night 106 = .ok (.bipush 100, 2) := by decide +kernel
theorem dX11_night_108 : decode cX11_night 108 = .ok (.irem, 1) := by decide +kernel
theorem dX11_night_109 : decode cX11_night 109 = .ok (.iload_n 2, 1) := by decide +kernel
theorem dX11_night_110 : decode cX11_night 110 = .ok (.if_icmp .ge 17, 3) := by decide +kernel
theorem dX11_night_113 : decode cX11_night 113 = .ok (.iload 10, 2) := by decide +kernel
theorem dX11_night_115 : decode cX11_night 115 = .ok (.iconst 1, 1) := by decide +kernel
theorem dX11_night_116 : decode cX11_night 116 = .ok (.iload 11, 2) := by decide +kernel
theorem dX11_night_118 : decode cX11_night 118 = .ok (.ishl, 1) := by decide +kernel
theorem dX11_night_119 : decode cX11_night 119 = .ok (.iconst (-1), 1) := by decide +kernel
theorem dX11_night_120 : decode cX11_night 120 = .ok (.ixor, 1) := by decide +kernel
theorem dX11_night_121 : decode cX11_night 121 = .ok (.iand, 1) := by decide +kernel
theorem dX11_night_122 : decode cX11_night 122 = .ok (.istore 10, 2) := by decide +kernel
theorem dX11_night_124 : decode cX11_night 124 = .ok (.iinc 7 1, 3) := by decide +kernel
theorem dX11_night_127 : decode cX11_night 127 = .ok (.iinc 11 1, 3) := by decide +kernel
theorem dX11_night_130 : decode cX11_night 130 = .ok (.goto (-63), 3) := by decide +kernel
theorem dX11_night_133 : decode cX11_night 133 = .ok (.aload_n 0, 1) := by decide +kernel
theorem dX11_night_134 : decode cX11_night 134 = .ok (.iload 8, 2) := by decide +kernel
theorem dX11_night_136 : decode cX11_night 136 = .ok (.iload 10, 2) := by decide +kernel
theorem dX11_night_138 : decode cX11_night 138 = .ok (.invokevirtual 192, 3) := by decide +kernel
theorem dX11_night_141 : decode cX11_night 141 = .ok (.istore 11, 2) := by decide +kernel
theorem dX11_night_143 : decode cX11_night 143 = .ok (.iload 5, 2) := by decide +kernel
theorem dX11_night_145 : decode cX11_night 145 = .ok (.iload 11, 2) := by decide +kernel
theorem dX11_night_147 : decode cX11_night 147 = .ok (.invokestatic 205, 3) := by decide +kernel
theorem dX11_night_150 : decode cX11_night 150 = .ok (.iadd, 1) := by decide +kernel
theorem dX11_night_151 : decode cX11_night 151 = .ok (.istore 5, 2) := by decide +kernel
theorem dX11_night_153 : decode cX11_night 153 = .ok (.iload 6, 2) := by decide +kernel
theorem dX11_night_155 : decode cX11_night 155 = .ok (.iload 11, 2) := by decide +kernel
theorem dX11_night_157 : decode cX11_night 157 = .ok (.ifCond .eq 7, 3) := by decide +kernel
theorem dX11_night_160 : decode cX11_night 160 = .ok (.iconst 1, 1) := by decide +kernel
theorem dX11_night_161 : decode cX11_night 161 = .ok (.goto 4, 3) := by decide +kernel
theorem dX11_night_164 : decode cX11_night 164 = .ok (.iconst 0, 1) := by decide +kernel
theorem dX11_night_165 : decode cX11_night 165 = .ok (.iadd, 1) := by decide +kernel
theorem dX11_night_166 : decode cX11_night 166 = .ok (.istore 6, 2) := by decide +kernel
theorem dX11_night_168 : decode cX11_night 168 = .ok (.iinc 8 1, 3) := by decide +kernel
theorem dX11_night_171 : decode cX11_night 171 = .ok (.goto (-129), 3) := by decide +kernel
theorem dX11_night_174 : decode cX11_night 174 = .ok (.iload_n 3, 1) := by decide +kernel
theorem dX11_night_175 : decode cX11_night 175 = .ok (.ifCond .ne 6, 3) := by decide +kernel
theorem dX11_night_178 : decode cX11_night 178 = .ok (.iload 5, 2) := by decide +kernel
theorem dX11_night_180 : decode cX11_night 180 = .ok (.ireturn, 1) := by decide +kernel
theorem dX11_night_181 : decode cX11_night 181 = .ok (.iload_n 3, 1) := by decide +kernel
theorem dX11_night_182 : decode cX11_night 182 = .ok (.iconst 1, 1) := by decide +kernel
theorem dX11_night_183 : decode cX11_night 183 = .ok (.if_icmp .ne 8, 3) := by decide +kernel
theorem dX11_night_186 : decode cX11_night 186 = .ok (.iload 6, 2) := by decide +kernel
theorem dX11_night_188 : decode cX11_night 188 = .ok (.goto 5, 3) := by decide +kernel
theorem dX11_night_191 : decode cX11_night 191 = .ok (.iload 7, 2) := by decide +kernel
theorem dX11_night_193 : decode cX11_night 193 = .ok (.ireturn, 1) := by decide +kernel
theorem dX11_tray_0 : decode cX11_tray 0 = .ok (.iload_n 1, 1) := by decide +kernel
theorem dX11_tray_1 : decode cX11_tray 1 = .ok (.invokestatic 378, 3) := by decide +kernel
theorem dX11_tray_4 : decode cX11_tray 4 = .ok (.iload_n 2, 1) := by decide +kernel
theorem dX11_tray_5 : decode cX11_tray 5 = .ok (.ifCond .lt 18, 3) := by decide +kernel
theorem dX11_tray_8 : decode cX11_tray 8 = .ok (.iload_n 2, 1) := by decide +kernel
theorem dX11_tray_9 : decode cX11_tray 9 = .ok (.iconst 3, 1) := by decide +kernel
theorem dX11_tray_10 : decode cX11_tray 10 = .ok (.if_icmp .gt 13, 3) := by decide +kernel
theorem dX11_tray_13 : decode cX11_tray 13 = .ok (.iload_n 3, 1) := by decide +kernel
theorem dX11_tray_14 : decode cX11_tray 14 = .ok (.ifCond .lt 9, 3) := by decide +kernel
theorem dX11_tray_17 : decode cX11_tray 17 = .ok (.iload_n 3, 1) := by decide +kernel
theorem dX11_tray_18 : decode cX11_tray 18 = .ok (.bipush 40, 2) := by decide +kernel
theorem dX11_tray_20 : decode cX11_tray 20 = .ok (.if_icmp .le 14, 3) := by decide +kernel
theorem dX11_tray_23 : decode cX11_tray 23 = .ok (.new 106, 3) := by decide +kernel
theorem dX11_tray_26 : decode cX11_tray 26 = .ok (.dup, 1) := by decide +kernel
theorem dX11_tray_27 : decode cX11_tray 27 = .ok (.ldc_w 381, 3) := by decide +kernel
theorem dX11_tray_30 : decode cX11_tray 30 = .ok (.invokespecial 110, 3) := by decide +kernel
theorem dX11_tray_33 : decode cX11_tray 33 = .ok (.athrow, 1) := by decide +kernel
theorem dX11_tray_34 : decode cX11_tray 34 = .ok (.aload_n 0, 1) := by decide +kernel
theorem dX11_tray_35 : decode cX11_tray 35 = .ok (.getfield 55, 3) := by decide +kernel
theorem dX11_tray_38 : decode cX11_tray 38 = .ok (.iload_n 1, 1) := by decide +kernel
theorem dX11_tray_39 : decode cX11_tray 39 = .ok (.iload_n 2, 1) := by decide +kernel
theorem dX11_tray_40 : decode cX11_tray 40 = .ok (.iload_n 3, 1) := by decide +kernel
theorem dX11_tray_41 : decode cX11_tray 41 = .ok (.invokevirtual 383, 3) := by decide +kernel
theorem dX11_tray_44 : decode cX11_tray 44 = .ok (.return_, 1) := by decide +kernel
theorem dX11_write_0 : decode cX11_write 0 = .ok (.aload_n 0, 1) := by decide +kernel
theorem dX11_write_1 : decode cX11_write 1 = .ok (.iload_n 1, 1) := by decide +kernel
theorem dX11_write_2 : decode cX11_write 2 = .ok (.invokevirtual 314, 3) := by decide +kernel
theorem dX11_write_5 : decode cX11_write 5 = .ok (.iload_n 2, 1) := by decide +kernel
theorem dX11_write_6 : decode cX11_write 6 = .ok (.ifCond .lt 16, 3) := by decide +kernel
theorem dX11_write_9 : decode cX11_write 9 = .ok (.iload_n 2, 1) := by decide +kernel
theorem dX11_write_10 : decode cX11_write 10 = .ok (.aload_n 0, 1) := by decide +kernel
theorem dX11_write_11 : decode cX11_write 11 = .ok (.getfield 55, 3) := by decide +kernel
theorem dX11_write_14 : decode cX11_write 14 = .ok (.getfield 317, 3) := by decide +kernel
theorem dX11_write_17 : decode cX11_write 17 = .ok (.iload_n 1, 1) := by decide +kernel
theorem dX11_write_18 : decode cX11_write 18 = .ok (.iaload, 1) := by decide +kernel
theorem dX11_write_19 : decode cX11_write 19 = .ok (.if_icmp .lt 14, 3) := by decide +kernel
theorem dX11_write_22 : decode cX11_write 22 = .ok (.new 320, 3) := by decide +kernel
theorem dX11_write_25 : decode cX11_write 25 = .ok (.dup, 1) := by decide +kernel
theorem dX11_write_26 : decode cX11_write 26 = .ok (.ldc_w 385, 3) := by decide +kernel
theorem dX11_write_29 : decode cX11_write 29 = .ok (.invokespecial 324, 3) := by decide +kernel
theorem dX11_write_32 : decode cX11_write 32 = .ok (.athrow, 1) := by decide +kernel
theorem dX11_write_33 : decode cX11_write 33 = .ok (.aload_n 0, 1) := by decide +kernel
theorem dX11_write_34 : decode cX11_write 34 = .ok (.getfield 55, 3) := by decide +kernel
theorem dX11_write_37 : decode cX11_write 37 = .ok (.iload_n 1, 1) := by decide +kernel
theorem dX11_write_38 : decode cX11_write 38 = .ok (.iload_n 2, 1) := by decide +kernel
theorem dX11_write_39 : decode cX11_write 39 = .ok (.lload_n 3, 1) := by decide +kernel
theorem dX11_write_40 : decode cX11_write 40 = .ok (.invokevirtual 387, 3) := by decide +kernel
theorem dX11_write_43 : decode cX11_write 43 = .ok (.lreturn, 1) := by decide +kernel
theorem dX11_pour_0 : decode cX11_pour 0 = .ok (.aload_n 0, 1) := by decide +kernel
theorem dX11_pour_1 : decode cX11_pour 1 = .ok (.iload_n 1, 1) := by decide +kernel
theorem dX11_pour_2 : decode cX11_pour 2 = .ok (.invokevirtual 314, 3) := by decide +kernel
theorem dX11_pour_5 : decode cX11_pour 5 = .ok (.aload_n 0, 1) := by decide +kernel
theorem dX11_pour_6 : decode cX11_pour 6 = .ok (.getfield 55, 3) := by decide +kernel
theorem dX11_pour_9 : decode cX11_pour 9 = .ok (.getfield 317, 3) := by decide +kernel
theorem dX11_pour_12 : decode cX11_pour 12 = .ok (.iload_n 1, 1) := by decide +kernel
theorem dX11_pour_13 : decode cX11_pour 13 = .ok (.iaload, 1) := by decide +kernel
theorem dX11_pour_14 : decode cX11_pour 14 = .ok (.istore_n 2, 1) := by decide +kernel
theorem dX11_pour_15 : decode cX11_pour 15 = .ok (.iload_n 2, 1) := by decide +kernel
theorem dX11_pour_16 : decode cX11_pour 16 = .ok (.iconst 2, 1) := by decide +kernel
theorem dX11_pour_17 : decode cX11_pour 17 = .ok (.irem, 1) := by decide +kernel
theorem dX11_pour_18 : decode cX11_pour 18 = .ok (.ifCond .eq 14, 3) := by decide +kernel
theorem dX11_pour_21 : decode cX11_pour 21 = .ok (.new 320, 3) := by decide +kernel
theorem dX11_pour_24 : decode cX11_pour 24 = .ok (.dup, 1) := by decide +kernel
theorem dX11_pour_25 : decode cX11_pour 25 = .ok (.ldc_w 390, 3) := by decide +kernel
theorem dX11_pour_28 : decode cX11_pour 28 = .ok (.invokespecial 324, 3) := by decide +kernel
theorem dX11_pour_31 : decode cX11_pour 31 = .ok (.athrow, 1) := by decide +kernel
theorem dX11_pour_32 : decode cX11_pour 32 = .ok (.iload_n 2, 1) := by decide +kernel
theorem dX11_pour_33 : decode cX11_pour 33 = .ok (.iconst 2, 1) := by decide +kernel
theorem dX11_pour_34 : decode cX11_pour 34 = .ok (.idiv, 1) := by decide +kernel
theorem dX11_pour_35 : decode cX11_pour 35 = .ok (.aload_n 0, 1) := by decide +kernel
theorem dX11_pour_36 : decode cX11_pour 36 = .ok (.getfield 26, 3) := by decide +kernel
theorem dX11_pour_39 : decode cX11_pour 39 = .ok (.getfield 162, 3) := by decide +kernel
theorem dX11_pour_42 : decode cX11_pour 42 = .ok (.if_icmp .le 14, 3) := by decide +kernel
theorem dX11_pour_45 : decode cX11_pour 45 = .ok (.new 106, 3) := by decide +kernel
theorem dX11_pour_48 : decode cX11_pour 48 = .ok (.dup, 1) := by decide +kernel
theorem dX11_pour_49 : decode cX11_pour 49 = .ok (.ldc_w 392, 3) := by decide +kernel
theorem dX11_pour_52 : decode cX11_pour 52 = .ok (.invokespecial 110, 3) := by decide +kernel
theorem dX11_pour_55 : decode cX11_pour 55 = .ok (.athrow, 1) := by decide +kernel
theorem dX11_pour_56 : decode cX11_pour 56 = .ok (.iconst 0, 1) := by decide +kernel
theorem dX11_pour_57 : decode cX11_pour 57 = .ok (.istore_n 3, 1) := by decide +kernel
theorem dX11_pour_58 : decode cX11_pour 58 = .ok (.iload_n 3, 1) := by decide +kernel
theorem dX11_pour_59 : decode cX11_pour 59 = .ok (.iload_n 2, 1) := by decide +kernel
theorem dX11_pour_60 : decode cX11_pour 60 = .ok (.iconst 2, 1) := by decide +kernel
theorem dX11_pour_61 : decode cX11_pour 61 = .ok (.idiv, 1) := by decide +kernel
theorem dX11_pour_62 : decode cX11_pour 62 = .ok (.if_icmp .ge 75, 3) := by decide +kernel
theorem dX11_pour_65 : decode cX11_pour 65 = .ok (.aload_n 0, 1) := by decide +kernel
theorem dX11_pour_66 : decode cX11_pour 66 = .ok (.getfield 55, 3) := by decide +kernel
theorem dX11_pour_69 : decode cX11_pour 69 = .ok (.iload_n 1, 1) := by decide +kernel
theorem dX11_pour_70 : decode cX11_pour 70 = .ok (.iconst 2, 1) := by decide +kernel
theorem dX11_pour_71 : decode cX11_pour 71 = .ok (.iload_n 3, 1) := by decide +kernel
theorem dX11_pour_72 : decode cX11_pour 72 = .ok (.imul, 1) := by decide +kernel
theorem dX11_pour_73 : decode cX11_pour 73 = .ok (.invokevirtual 327, 3) := by decide +kernel
theorem dX11_pour_76 : decode cX11_pour 76 = .ok (.lstore 4, 2) := by decide +kernel
theorem dX11_pour_78 : decode cX11_pour 78 = .ok (.lload 4, 2) := by decide +kernel
theorem dX11_pour_80 : decode cX11_pour 80 = .ok (.ldc2_w 394, 3) := by decide +kernel
theorem dX11_pour_83 : decode cX11_pour 83 = .ok (.lcmp, 1) := by decide +kernel
theorem dX11_pour_84 : decode cX11_pour 84 = .ok (.ifCond .lt 36, 3) := by decide +kernel
theorem dX11_pour_87 : decode cX11_pour 87 = .ok (.lload 4, 2) := by decide +kernel
theorem dX11_pour_89 : decode cX11_pour 89 = .ok (.aload_n 0, 1) := by decide +kernel
theorem dX11_pour_90 : decode cX11_pour 90 = .ok (.getfield 26, 3) := by decide +kernel
theorem dX11_pour_93 : decode cX11_pour 93 = .ok (.getfield 396, 3) := by decide +kernel
theorem dX11_pour_96 : decode cX11_pour 96 = .ok (.i2l, 1) := by decide +kernel
theorem dX11_pour_97 : decode cX11_pour 97 = .ok (.lcmp, 1) := by decide +kernel
theorem dX11_pour_98 : decode cX11_pour 98 = .ok (.ifCond .ge 22, 3) := by decide +kernel
theorem dX11_pour_101 : decode cX11_pour 101 = .ok (.aload_n 0, 1) := by decide +kernel
theorem dX11_pour_102 : decode cX11_pour 102 = .ok (.getfield 55, 3) := by decide +kernel
theorem dX11_pour_105 : decode cX11_pour 105 = .ok (.iload_n 1, 1) := by decide +kernel
theorem dX11_pour_106 : decode cX11_pour 106 = .ok (.iconst 2, 1) := by decide +kernel
theorem dX11_pour_107 : decode cX11_pour 107 = .ok (.iload_n 3, 1) := by decide +kernel
theorem dX11_pour_108 : decode cX11_pour 108 = .ok (.imul, 1) := by decide +kernel
theorem dX11_pour_109 : decode cX11_pour 109 = .ok (.iconst 1, 1) := by decide +kernel
theorem dX11_pour_110 : decode cX11_pour 110 = .ok (.iadd, 1) := by decide +kernel
theorem dX11_pour_111 : decode cX11_pour 111 = .ok (.invokevirtual 327, 3) := by decide +kernel
theorem dX11_pour_114 : decode cX11_pour 114 = .ok (.invokestatic 165, 3) := by decide +kernel
theorem dX11_pour_117 : decode cX11_pour 117 = .ok (.ifCond .ne 14, 3) := by decide +kernel
theorem dX11_pour_120 : decode cX11_pour 120 = .ok (.new 106, 3) := by decide +kernel
theorem dX11_pour_123 : decode cX11_pour 123 = .ok (.dup, 1) := by decide +kernel
theorem dX11_pour_124 : decode cX11_pour 124 = .ok (.ldc_w 399, 3) := by decide +kernel
theorem dX11_pour_127 : decode cX11_pour 127 = .ok (.invokespecial 110, 3) := by decide +kernel
theorem dX11_pour_130 : decode cX11_pour 130 = .ok (.athrow, 1) := by decide +kernel
theorem dX11_pour_131 : decode cX11_pour 131 = .ok (.iinc 3 1, 3) := by decide +kernel
theorem dX11_pour_134 : decode cX11_pour 134 = .ok (.goto (-76), 3) := by decide +kernel
theorem dX11_pour_137 : decode cX11_pour 137 = .ok (.iconst 0, 1) := by decide +kernel
theorem dX11_pour_138 : decode cX11_pour 138 = .ok (.istore_n 3, 1) := by decide +kernel
theorem dX11_pour_139 : decode cX11_pour 139 = .ok (.iload_n 3, 1) := by decide +kernel
theorem dX11_pour_140 : decode cX11_pour 140 = .ok (.iload_n 2, 1) := by decide +kernel
theorem dX11_pour_141 : decode cX11_pour 141 = .ok (.iconst 2, 1) := by decide +kernel
theorem dX11_pour_142 : decode cX11_pour 142 = .ok (.idiv, 1) := by decide +kernel
theorem dX11_pour_143 : decode cX11_pour 143 = .ok (.if_icmp .ge 43, 3) := by decide +kernel
theorem dX11_pour_146 : decode cX11_pour 146 = .ok (.aload_n 0, 1) := by decide +kernel
theorem dX11_pour_147 : decode cX11_pour 147 = .ok (.getfield 33, 3) := by decide +kernel
theorem dX11_pour_150 : decode cX11_pour 150 = .ok (.iload_n 3, 1) := by decide +kernel
theorem dX11_pour_151 : decode cX11_pour 151 = .ok (.aload_n 0, 1) := by decide +kernel
theorem dX11_pour_152 : decode cX11_pour 152 = .ok (.getfield 55, 3) := by decide +kernel
theorem dX11_pour_155 : decode cX11_pour 155 = .ok (.iload_n 1, 1) := by decide +kernel
theorem dX11_pour_156 : decode cX11_pour 156 = .ok (.iconst 2, 1) := by decide +kernel
theorem dX11_pour_157 : decode cX11_pour 157 = .ok (.iload_n 3, 1) := by decide +kernel
theorem dX11_pour_158 : decode cX11_pour 158 = .ok (.imul, 1) := by decide +kernel
theorem dX11_pour_159 : decode cX11_pour 159 = .ok (.invokevirtual 327, 3) := by decide +kernel
theorem dX11_pour_162 : decode cX11_pour 162 = .ok (.l2i, 1) := by decide +kernel
theorem dX11_pour_163 : decode cX11_pour 163 = .ok (.aload_n 0, 1) := by decide +kernel
theorem dX11_pour_164 : decode cX11_pour 164 = .ok (.getfield 55, 3) := by decide +kernel
theorem dX11_pour_167 : decode cX11_pour 167 = .ok (.iload_n 1, 1) := by decide +kernel
theorem dX11_pour_168 : decode cX11_pour 168 = .ok (.iconst 2, 1) := by decide +kernel
theorem dX11_pour_169 : decode cX11_pour 169 = .ok (.iload_n 3, 1) := by decide +kernel
theorem dX11_pour_170 : decode cX11_pour 170 = .ok (.imul, 1) := by decide +kernel
theorem dX11_pour_171 : decode cX11_pour 171 = .ok (.iconst 1, 1) := by decide +kernel
theorem dX11_pour_172 : decode cX11_pour 172 = .ok (.iadd, 1) := by decide +kernel
theorem dX11_pour_173 : decode cX11_pour 173 = .ok (.invokevirtual 327, 3) := by decide +kernel
theorem dX11_pour_176 : decode cX11_pour 176 = .ok (.l2i, 1) := by decide +kernel
theorem dX11_pour_177 : decode cX11_pour 177 = .ok (.invokevirtual 172, 3) := by decide +kernel
theorem dX11_pour_180 : decode cX11_pour 180 = .ok (.iinc 3 1, 3) := by decide +kernel
theorem dX11_pour_183 : decode cX11_pour 183 = .ok (.goto (-44), 3) := by decide +kernel
theorem dX11_pour_186 : decode cX11_pour 186 = .ok (.iload_n 2, 1) := by decide +kernel
theorem dX11_pour_187 : decode cX11_pour 187 = .ok (.iconst 2, 1) := by decide +kernel
theorem dX11_pour_188 : decode cX11_pour 188 = .ok (.idiv, 1) := by decide +kernel
theorem dX11_pour_189 : decode cX11_pour 189 = .ok (.ireturn, 1) := by decide +kernel
theorem dX11_image_0 : decode cX11_image 0 = .ok (.iload_n 1, 1) := by decide +kernel
theorem dX11_image_1 : decode cX11_image 1 = .ok (.invokestatic 401, 3) := by decide +kernel
theorem dX11_image_4 : decode cX11_image 4 = .ok (.aload_n 0, 1) := by decide +kernel
theorem dX11_image_5 : decode cX11_image 5 = .ok (.getfield 41, 3) := by decide +kernel
theorem dX11_image_8 : decode cX11_image 8 = .ok (.iload_n 1, 1) := by decide +kernel
theorem dX11_image_9 : decode cX11_image 9 = .ok (.aaload, 1) := by decide +kernel
theorem dX11_image_10 : decode cX11_image 10 = .ok (.astore_n 2, 1) := by decide +kernel
theorem dX11_image_11 : decode cX11_image 11 = .ok (.aload_n 2, 1) := by decide +kernel
theorem dX11_image_12 : decode cX11_image 12 = .ok (.ifnonnull 18, 3) := by decide +kernel
theorem dX11_image_15 : decode cX11_image 15 = .ok (.new 30, 3) := by decide +kernel
theorem dX11_image_18 : decode cX11_image 18 = .ok (.dup, 1) := by decide +kernel
theorem dX11_image_19 : decode cX11_image 19 = .ok (.invokespecial 32, 3) := by decide +kernel
theorem dX11_image_22 : decode cX11_image 22 = .ok (.astore_n 2, 1) := by decide +kernel
theorem dX11_image_23 : decode cX11_image 23 = .ok (.aload_n 0, 1) := by decide +kernel
theorem dX11_image_24 : decode cX11_image 24 = .ok (.getfield 41, 3) := by decide +kernel
theorem dX11_image_27 : decode cX11_image 27 = .ok (.iload_n 1, 1) := by decide +kernel
theorem dX11_image_28 : decode cX11_image 28 = .ok (.aload_n 2, 1) := by decide +kernel
theorem dX11_image_29 : decode cX11_image 29 = .ok (.aastore, 1) := by decide +kernel
theorem dX11_image_30 : decode cX11_image 30 = .ok (.aload_n 2, 1) := by decide +kernel
theorem dX11_image_31 : decode cX11_image 31 = .ok (.aload_n 0, 1) := by decide +kernel
theorem dX11_image_32 : decode cX11_image 32 = .ok (.getfield 33, 3) := by decide +kernel
theorem dX11_image_35 : decode cX11_image 35 = .ok (.invokevirtual 404, 3) := by decide +kernel
theorem dX11_image_38 : decode cX11_image 38 = .ok (.aload_n 0, 1) := by decide +kernel
theorem dX11_image_39 : decode cX11_image 39 = .ok (.getfield 37, 3) := by decide +kernel
theorem dX11_image_42 : decode cX11_image 42 = .ok (.iload_n 1, 1) := by decide +kernel
theorem dX11_image_43 : decode cX11_image 43 = .ok (.aload_n 0, 1) := by decide +kernel
theorem dX11_image_44 : decode cX11_image 44 = .ok (.getfield 26, 3) := by decide +kernel
theorem dX11_image_47 : decode cX11_image 47 = .ok (.aastore, 1) := by decide +kernel
theorem dX11_image_48 : decode cX11_image 48 = .ok (.return_, 1) := by decide +kernel
theorem dX11_restore_0 : decode cX11_restore 0 = .ok (.iload_n 1, 1) := by decide +kernel
theorem dX11_restore_1 : decode cX11_restore 1 = .ok (.invokestatic 401, 3) := by decide +kernel
theorem dX11_restore_4 : decode cX11_restore 4 = .ok (.aload_n 0, 1) := by decide +kernel
theorem dX11_restore_5 : decode cX11_restore 5 = .ok (.getfield 37, 3) := by decide +kernel
theorem dX11_restore_8 : decode cX11_restore 8 = .ok (.iload_n 1, 1) := by decide +kernel
theorem dX11_restore_9 : decode cX11_restore 9 = .ok (.aaload, 1) := by decide +kernel
theorem dX11_restore_10 : decode cX11_restore 10 = .ok (.astore_n 2, 1) := by decide +kernel
theorem dX11_restore_11 : decode cX11_restore 11 = .ok (.aload_n 0, 1) := by decide +kernel
theorem dX11_restore_12 : decode cX11_restore 12 = .ok (.getfield 41, 3) := by decide +kernel
