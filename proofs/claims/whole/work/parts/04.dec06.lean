theorem dX12_layMixed_40 : decode cX12_layMixed 40 = .ok (.idiv, 1) := by decide +kernel
theorem dX12_layMixed_41 : decode cX12_layMixed 41 = .ok (.istore_n 2, 1) := by decide +kernel
theorem dX12_layMixed_42 : decode cX12_layMixed 42 = .ok (.aload_n 0, 1) := by decide +kernel
theorem dX12_layMixed_43 : decode cX12_layMixed 43 = .ok (.getfield 36, 3) := by decide +kernel
theorem dX12_layMixed_46 : decode cX12_layMixed 46 = .ok (.iload 4, 2) := by decide +kernel
theorem dX12_layMixed_48 : decode cX12_layMixed 48 = .ok (.iload 5, 2) := by decide +kernel
theorem dX12_layMixed_50 : decode cX12_layMixed 50 = .ok (.iastore, 1) := by decide +kernel
theorem dX12_layMixed_51 : decode cX12_layMixed 51 = .ok (.aload_n 0, 1) := by decide +kernel
theorem dX12_layMixed_52 : decode cX12_layMixed 52 = .ok (.getfield 33, 3) := by decide +kernel
theorem dX12_layMixed_55 : decode cX12_layMixed 55 = .ok (.iload 4, 2) := by decide +kernel
theorem dX12_layMixed_57 : decode cX12_layMixed 57 = .ok (.iload 5, 2) := by decide +kernel
theorem dX12_layMixed_59 : decode cX12_layMixed 59 = .ok (.iconst (-1), 1) := by decide +kernel
theorem dX12_layMixed_60 : decode cX12_layMixed 60 = .ok (.if_icmp .ne 7, 3) := by decide +kernel
theorem dX12_layMixed_63 : decode cX12_layMixed 63 = .ok (.iconst 0, 1) := by decide +kernel
theorem dX12_layMixed_64 : decode cX12_layMixed 64 = .ok (.goto 16, 3) := by decide +kernel
theorem dX12_layMixed_67 : decode cX12_layMixed 67 = .ok (.aload_n 0, 1) := by decide +kernel
theorem dX12_layMixed_68 : decode cX12_layMixed 68 = .ok (.getfield 9, 3) := by decide +kernel
theorem dX12_layMixed_71 : decode cX12_layMixed 71 = .ok (.sipush 248, 3) := by decide +kernel
theorem dX12_layMixed_74 : decode cX12_layMixed 74 = .ok (.iconst 2, 1) := by decide +kernel
theorem dX12_layMixed_75 : decode cX12_layMixed 75 = .ok (.iload 5, 2) := by decide +kernel
theorem dX12_layMixed_77 : decode cX12_layMixed 77 = .ok (.imul, 1) := by decide +kernel
theorem dX12_layMixed_78 : decode cX12_layMixed 78 = .ok (.iadd, 1) := by decide +kernel
theorem dX12_layMixed_79 : decode cX12_layMixed 79 = .ok (.iaload, 1) := by decide +kernel
theorem dX12_layMixed_80 : decode cX12_layMixed 80 = .ok (.iastore, 1) := by decide +kernel
theorem dX12_layMixed_81 : decode cX12_layMixed 81 = .ok (.iload_n 3, 1) := by decide +kernel
theorem dX12_layMixed_82 : decode cX12_layMixed 82 = .ok (.iload 5, 2) := by decide +kernel
theorem dX12_layMixed_84 : decode cX12_layMixed 84 = .ok (.iconst (-1), 1) := by decide +kernel
theorem dX12_layMixed_85 : decode cX12_layMixed 85 = .ok (.if_icmp .ne 7, 3) := by decide +kernel
theorem dX12_layMixed_88 : decode cX12_layMixed 88 = .ok (.iconst 0, 1) := by decide +kernel
theorem dX12_layMixed_89 : decode cX12_layMixed 89 = .ok (.goto 23, 3) := by decide +kernel
theorem dX12_layMixed_92 : decode cX12_layMixed 92 = .ok (.bipush 100, 2) := by decide +kernel
theorem dX12_layMixed_94 : decode cX12_layMixed 94 = .ok (.aload_n 0, 1) := by decide +kernel
theorem dX12_layMixed_95 : decode cX12_layMixed 95 = .ok (.getfield 9, 3) := by decide +kernel
theorem dX12_layMixed_98 : decode cX12_layMixed 98 = .ok (.sipush 248, 3) := by decide +kernel
theorem dX12_layMixed_101 : decode cX12_layMixed 101 = .ok (.iconst 2, 1) := by decide +kernel
theorem dX12_layMixed_102 : decode cX12_layMixed 102 = .ok (.iload 5, 2) := by decide +kernel
theorem dX12_layMixed_104 : decode cX12_layMixed 104 = .ok (.imul, 1) := by decide +kernel
theorem dX12_layMixed_105 : decode cX12_layMixed 105 = .ok (.iadd, 1) := by decide +kernel
theorem dX12_layMixed_106 : decode cX12_layMixed 106 = .ok (.iconst 1, 1) := by decide +kernel
theorem dX12_layMixed_107 : decode cX12_layMixed 107 = .ok (.iadd, 1) := by decide +kernel
theorem dX12_layMixed_108 : decode cX12_layMixed 108 = .ok (.iaload, 1) := by decide +kernel
theorem dX12_layMixed_109 : decode cX12_layMixed 109 = .ok (.imul, 1) := by decide +kernel
theorem dX12_layMixed_110 : decode cX12_layMixed 110 = .ok (.iconst 1, 1) := by decide +kernel
theorem dX12_layMixed_111 : decode cX12_layMixed 111 = .ok (.iadd, 1) := by decide +kernel
theorem dX12_layMixed_112 : decode cX12_layMixed 112 = .ok (.iadd, 1) := by decide +kernel
theorem dX12_layMixed_113 : decode cX12_layMixed 113 = .ok (.istore_n 3, 1) := by decide +kernel
theorem dX12_layMixed_114 : decode cX12_layMixed 114 = .ok (.iinc 4 (-1), 3) := by decide +kernel
theorem dX12_layMixed_117 : decode cX12_layMixed 117 = .ok (.goto (-105), 3) := by decide +kernel
theorem dX12_layMixed_120 : decode cX12_layMixed 120 = .ok (.iload_n 3, 1) := by decide +kernel
theorem dX12_layMixed_121 : decode cX12_layMixed 121 = .ok (.ireturn, 1) := by decide +kernel
theorem dX12_mixedIn_0 : decode cX12_mixedIn 0 = .ok (.iconst 1, 1) := by decide +kernel
theorem dX12_mixedIn_1 : decode cX12_mixedIn 1 = .ok (.istore_n 2, 1) := by decide +kernel
theorem dX12_mixedIn_2 : decode cX12_mixedIn 2 = .ok (.iconst 0, 1) := by decide +kernel
theorem dX12_mixedIn_3 : decode cX12_mixedIn 3 = .ok (.istore_n 3, 1) := by decide +kernel
theorem dX12_mixedIn_4 : decode cX12_mixedIn 4 = .ok (.iload_n 3, 1) := by decide +kernel
theorem dX12_mixedIn_5 : decode cX12_mixedIn 5 = .ok (.aload_n 0, 1) := by decide +kernel
theorem dX12_mixedIn_6 : decode cX12_mixedIn 6 = .ok (.invokevirtual 228, 3) := by decide +kernel
theorem dX12_mixedIn_9 : decode cX12_mixedIn 9 = .ok (.if_icmp .ge 20, 3) := by decide +kernel
theorem dX12_mixedIn_12 : decode cX12_mixedIn 12 = .ok (.iload_n 2, 1) := by decide +kernel
theorem dX12_mixedIn_13 : decode cX12_mixedIn 13 = .ok (.aload_n 0, 1) := by decide +kernel
theorem dX12_mixedIn_14 : decode cX12_mixedIn 14 = .ok (.getfield 9, 3) := by decide +kernel
theorem dX12_mixedIn_17 : decode cX12_mixedIn 17 = .ok (.iconst 3, 1) := by decide +kernel
theorem dX12_mixedIn_18 : decode cX12_mixedIn 18 = .ok (.iaload, 1) := by decide +kernel
theorem dX12_mixedIn_19 : decode cX12_mixedIn 19 = .ok (.iconst 1, 1) := by decide +kernel
theorem dX12_mixedIn_20 : decode cX12_mixedIn 20 = .ok (.iadd, 1) := by decide +kernel
theorem dX12_mixedIn_21 : decode cX12_mixedIn 21 = .ok (.imul, 1) := by decide +kernel
theorem dX12_mixedIn_22 : decode cX12_mixedIn 22 = .ok (.istore_n 2, 1) := by decide +kernel
theorem dX12_mixedIn_23 : decode cX12_mixedIn 23 = .ok (.iinc 3 1, 3) := by decide +kernel
theorem dX12_mixedIn_26 : decode cX12_mixedIn 26 = .ok (.goto (-22), 3) := by decide +kernel
theorem dX12_mixedIn_29 : decode cX12_mixedIn 29 = .ok (.iconst (-1), 1) := by decide +kernel
theorem dX12_mixedIn_30 : decode cX12_mixedIn 30 = .ok (.istore_n 3, 1) := by decide +kernel
theorem dX12_mixedIn_31 : decode cX12_mixedIn 31 = .ok (.iconst 0, 1) := by decide +kernel
theorem dX12_mixedIn_32 : decode cX12_mixedIn 32 = .ok (.istore 4, 2) := by decide +kernel
theorem dX12_mixedIn_34 : decode cX12_mixedIn 34 = .ok (.iload 4, 2) := by decide +kernel
theorem dX12_mixedIn_36 : decode cX12_mixedIn 36 = .ok (.iload_n 2, 1) := by decide +kernel
theorem dX12_mixedIn_37 : decode cX12_mixedIn 37 = .ok (.if_icmp .ge 74, 3) := by decide +kernel
theorem dX12_mixedIn_40 : decode cX12_mixedIn 40 = .ok (.aload_n 0, 1) := by decide +kernel
theorem dX12_mixedIn_41 : decode cX12_mixedIn 41 = .ok (.iload 4, 2) := by decide +kernel
theorem dX12_mixedIn_43 : decode cX12_mixedIn 43 = .ok (.invokevirtual 319, 3) := by decide +kernel
theorem dX12_mixedIn_46 : decode cX12_mixedIn 46 = .ok (.istore 5, 2) := by decide +kernel
theorem dX12_mixedIn_48 : decode cX12_mixedIn 48 = .ok (.iload_n 3, 1) := by decide +kernel
theorem dX12_mixedIn_49 : decode cX12_mixedIn 49 = .ok (.iconst (-1), 1) := by decide +kernel
theorem dX12_mixedIn_50 : decode cX12_mixedIn 50 = .ok (.if_icmp .eq 9, 3) := by decide +kernel
theorem dX12_mixedIn_53 : decode cX12_mixedIn 53 = .ok (.iload 5, 2) := by decide +kernel
theorem dX12_mixedIn_55 : decode cX12_mixedIn 55 = .ok (.iload_n 3, 1) := by decide +kernel
theorem dX12_mixedIn_56 : decode cX12_mixedIn 56 = .ok (.if_icmp .ge 49, 3) := by decide +kernel
theorem dX12_mixedIn_59 : decode cX12_mixedIn 59 = .ok (.aload_n 0, 1) := by decide +kernel
theorem dX12_mixedIn_60 : decode cX12_mixedIn 60 = .ok (.iload_n 1, 1) := by decide +kernel
theorem dX12_mixedIn_61 : decode cX12_mixedIn 61 = .ok (.invokevirtual 259, 3) := by decide +kernel
theorem dX12_mixedIn_64 : decode cX12_mixedIn 64 = .ok (.ifCond .eq 6, 3) := by decide +kernel
theorem dX12_mixedIn_67 : decode cX12_mixedIn 67 = .ok (.goto 38, 3) := by decide +kernel
theorem dX12_mixedIn_70 : decode cX12_mixedIn 70 = .ok (.iload 5, 2) := by decide +kernel
theorem dX12_mixedIn_72 : decode cX12_mixedIn 72 = .ok (.istore_n 3, 1) := by decide +kernel
theorem dX12_mixedIn_73 : decode cX12_mixedIn 73 = .ok (.iconst 0, 1) := by decide +kernel
theorem dX12_mixedIn_74 : decode cX12_mixedIn 74 = .ok (.istore 6, 2) := by decide +kernel
theorem dX12_mixedIn_76 : decode cX12_mixedIn 76 = .ok (.iload 6, 2) := by decide +kernel
theorem dX12_mixedIn_78 : decode cX12_mixedIn 78 = .ok (.aload_n 0, 1) := by decide +kernel
theorem dX12_mixedIn_79 : decode cX12_mixedIn 79 = .ok (.invokevirtual 228, 3) := by decide +kernel
theorem dX12_mixedIn_82 : decode cX12_mixedIn 82 = .ok (.if_icmp .ge 23, 3) := by decide +kernel
theorem dX12_mixedIn_85 : decode cX12_mixedIn 85 = .ok (.aload_n 0, 1) := by decide +kernel
theorem dX12_mixedIn_86 : decode cX12_mixedIn 86 = .ok (.getfield 39, 3) := by decide +kernel
theorem dX12_mixedIn_89 : decode cX12_mixedIn 89 = .ok (.iload 6, 2) := by decide +kernel
theorem dX12_mixedIn_91 : decode cX12_mixedIn 91 = .ok (.aload_n 0, 1) := by decide +kernel
theorem dX12_mixedIn_92 : decode cX12_mixedIn 92 = .ok (.getfield 36, 3) := by decide +kernel
theorem dX12_mixedIn_95 : decode cX12_mixedIn 95 = .ok (.iload 6, 2) := by decide +kernel
theorem dX12_mixedIn_97 : decode cX12_mixedIn 97 = .ok (.iaload, 1) := by decide +kernel
theorem dX12_mixedIn_98 : decode cX12_mixedIn 98 = .ok (.iastore, 1) := by decide +kernel
theorem dX12_mixedIn_99 : decode cX12_mixedIn 99 = .ok (.iinc 6 1, 3) := by decide +kernel
theorem dX12_mixedIn_102 : decode cX12_mixedIn 102 = .ok (.goto (-26), 3) := by decide +kernel
theorem dX12_mixedIn_105 : decode cX12_mixedIn 105 = .ok (.iinc 4 1, 3) := by decide +kernel
theorem dX12_mixedIn_108 : decode cX12_mixedIn 108 = .ok (.goto (-74), 3) := by decide +kernel
theorem dX12_mixedIn_111 : decode cX12_mixedIn 111 = .ok (.iload_n 3, 1) := by decide +kernel
theorem dX12_mixedIn_112 : decode cX12_mixedIn 112 = .ok (.ireturn, 1) := by decide +kernel
theorem dX12_mixed_0 : decode cX12_mixed 0 = .ok (.aload_n 0, 1) := by decide +kernel
theorem dX12_mixed_1 : decode cX12_mixed 1 = .ok (.iload_n 1, 1) := by decide +kernel
theorem dX12_mixed_2 : decode cX12_mixed 2 = .ok (.invokestatic 270, 3) := by decide +kernel
theorem dX12_mixed_5 : decode cX12_mixed 5 = .ok (.ifCond .eq 34, 3) := by decide +kernel
theorem dX12_mixed_8 : decode cX12_mixed 8 = .ok (.aload_n 0, 1) := by decide +kernel
theorem dX12_mixed_9 : decode cX12_mixed 9 = .ok (.invokevirtual 228, 3) := by decide +kernel
theorem dX12_mixed_12 : decode cX12_mixed 12 = .ok (.bipush 8, 2) := by decide +kernel
theorem dX12_mixed_14 : decode cX12_mixed 14 = .ok (.if_icmp .gt 25, 3) := by decide +kernel
theorem dX12_mixed_17 : decode cX12_mixed 17 = .ok (.iload_n 2, 1) := by decide +kernel
theorem dX12_mixed_18 : decode cX12_mixed 18 = .ok (.i2l, 1) := by decide +kernel
theorem dX12_mixed_19 : decode cX12_mixed 19 = .ok (.ldc2_w 322, 3) := by decide +kernel
theorem dX12_mixed_22 : decode cX12_mixed 22 = .ok (.aload_n 0, 1) := by decide +kernel
theorem dX12_mixed_23 : decode cX12_mixed 23 = .ok (.invokevirtual 228, 3) := by decide +kernel
theorem dX12_mixed_26 : decode cX12_mixed 26 = .ok (.iconst 1, 1) := by decide +kernel
theorem dX12_mixed_27 : decode cX12_mixed 27 = .ok (.isub, 1) := by decide +kernel
theorem dX12_mixed_28 : decode cX12_mixed 28 = .ok (.i2l, 1) := by decide +kernel
theorem dX12_mixed_29 : decode cX12_mixed 29 = .ok (.invokestatic 134, 3) := by decide +kernel
theorem dX12_mixed_32 : decode cX12_mixed 32 = .ok (.ifCond .eq 7, 3) := by decide +kernel
theorem dX12_mixed_35 : decode cX12_mixed 35 = .ok (.iconst 0, 1) := by decide +kernel
theorem dX12_mixed_36 : decode cX12_mixed 36 = .ok (.goto 4, 3) := by decide +kernel
theorem dX12_mixed_39 : decode cX12_mixed 39 = .ok (.iconst 1, 1) := by decide +kernel
theorem dX12_mixed_40 : decode cX12_mixed 40 = .ok (.putfield 75, 3) := by decide +kernel
theorem dX12_mixed_43 : decode cX12_mixed 43 = .ok (.aload_n 0, 1) := by decide +kernel
theorem dX12_mixed_44 : decode cX12_mixed 44 = .ok (.getfield 75, 3) := by decide +kernel
theorem dX12_mixed_47 : decode cX12_mixed 47 = .ok (.ifCond .le 5, 3) := by decide +kernel
theorem dX12_mixed_50 : decode cX12_mixed 50 = .ok (.iconst 0, 1) := by decide +kernel
theorem dX12_mixed_51 : decode cX12_mixed 51 = .ok (.ireturn, 1) := by decide +kernel
theorem dX12_mixed_52 : decode cX12_mixed 52 = .ok (.aload_n 0, 1) := by decide +kernel
theorem dX12_mixed_53 : decode cX12_mixed 53 = .ok (.iload_n 1, 1) := by decide +kernel
theorem dX12_mixed_54 : decode cX12_mixed 54 = .ok (.invokevirtual 324, 3) := by decide +kernel
theorem dX12_mixed_57 : decode cX12_mixed 57 = .ok (.istore_n 3, 1) := by decide +kernel
theorem dX12_mixed_58 : decode cX12_mixed 58 = .ok (.iload_n 3, 1) := by decide +kernel
theorem dX12_mixed_59 : decode cX12_mixed 59 = .ok (.iconst (-1), 1) := by decide +kernel
theorem dX12_mixed_60 : decode cX12_mixed 60 = .ok (.if_icmp .ne 5, 3) := by decide +kernel
theorem dX12_mixed_63 : decode cX12_mixed 63 = .ok (.iconst (-1), 1) := by decide +kernel
theorem dX12_mixed_64 : decode cX12_mixed 64 = .ok (.ireturn, 1) := by decide +kernel
theorem dX12_mixed_65 : decode cX12_mixed 65 = .ok (.iload_n 2, 1) := by decide +kernel
theorem dX12_mixed_66 : decode cX12_mixed 66 = .ok (.iconst (-1), 1) := by decide +kernel
theorem dX12_mixed_67 : decode cX12_mixed 67 = .ok (.if_icmp .ne 10, 3) := by decide +kernel
theorem dX12_mixed_70 : decode cX12_mixed 70 = .ok (.iload_n 3, 1) := by decide +kernel
theorem dX12_mixed_71 : decode cX12_mixed 71 = .ok (.bipush 100, 2) := by decide +kernel
theorem dX12_mixed_73 : decode cX12_mixed 73 = .ok (.idiv, 1) := by decide +kernel
theorem dX12_mixed_74 : decode cX12_mixed 74 = .ok (.goto 22, 3) := by decide +kernel
theorem dX12_mixed_77 : decode cX12_mixed 77 = .ok (.iload_n 2, 1) := by decide +kernel
theorem dX12_mixed_78 : decode cX12_mixed 78 = .ok (.bipush (-2), 2) := by decide +kernel
theorem dX12_mixed_80 : decode cX12_mixed 80 = .ok (.if_icmp .ne 10, 3) := by decide +kernel
theorem dX12_mixed_83 : decode cX12_mixed 83 = .ok (.iload_n 3, 1) := by decide +kernel
theorem dX12_mixed_84 : decode cX12_mixed 84 = .ok (.bipush 100, 2) := by decide +kernel
theorem dX12_mixed_86 : decode cX12_mixed 86 = .ok (.irem, 1) := by decide +kernel
theorem dX12_mixed_87 : decode cX12_mixed 87 = .ok (.goto 9, 3) := by decide +kernel
theorem dX12_mixed_90 : decode cX12_mixed 90 = .ok (.aload_n 0, 1) := by decide +kernel
theorem dX12_mixed_91 : decode cX12_mixed 91 = .ok (.getfield 39, 3) := by decide +kernel
theorem dX12_mixed_94 : decode cX12_mixed 94 = .ok (.iload_n 2, 1) := by decide +kernel
theorem dX12_mixed_95 : decode cX12_mixed 95 = .ok (.iaload, 1) := by decide +kernel
theorem dX12_mixed_96 : decode cX12_mixed 96 = .ok (.ireturn, 1) := by decide +kernel
theorem dX12_areBeside_0 : decode cX12_areBeside 0 = .ok (.iload_n 0, 1) := by decide +kernel
theorem dX12_areBeside_1 : decode cX12_areBeside 1 = .ok (.iload_n 2, 1) := by decide +kernel
theorem dX12_areBeside_2 : decode cX12_areBeside 2 = .ok (.irem, 1) := by decide +kernel
theorem dX12_areBeside_3 : decode cX12_areBeside 3 = .ok (.iload_n 1, 1) := by decide +kernel
theorem dX12_areBeside_4 : decode cX12_areBeside 4 = .ok (.iload_n 2, 1) := by decide +kernel
theorem dX12_areBeside_5 : decode cX12_areBeside 5 = .ok (.irem, 1) := by decide +kernel
theorem dX12_areBeside_6 : decode cX12_areBeside 6 = .ok (.isub, 1) := by decide +kernel
theorem dX12_areBeside_7 : decode cX12_areBeside 7 = .ok (.invokestatic 327, 3) := by decide +kernel
theorem dX12_areBeside_10 : decode cX12_areBeside 10 = .ok (.istore_n 3, 1) := by decide +kernel
theorem dX12_areBeside_11 : decode cX12_areBeside 11 = .ok (.iload_n 0, 1) := by decide +kernel
theorem dX12_areBeside_12 : decode cX12_areBeside 12 = .ok (.iload_n 2, 1) := by decide +kernel
theorem dX12_areBeside_13 : decode cX12_areBeside 13 = .ok (.idiv, 1) := by decide +kernel
theorem dX12_areBeside_14 : decode cX12_areBeside 14 = .ok (.iload_n 1, 1) := by decide +kernel
theorem dX12_areBeside_15 : decode cX12_areBeside 15 = .ok (.iload_n 2, 1) := by decide +kernel
theorem dX12_areBeside_16 : decode cX12_areBeside 16 = .ok (.idiv, 1) := by decide +kernel
theorem dX12_areBeside_17 : decode cX12_areBeside 17 = .ok (.isub, 1) := by decide +kernel
theorem dX12_areBeside_18 : decode cX12_areBeside 18 = .ok (.invokestatic 327, 3) := by decide +kernel
theorem dX12_areBeside_21 : decode cX12_areBeside 21 = .ok (.istore 4, 2) := by decide +kernel
theorem dX12_areBeside_23 : decode cX12_areBeside 23 = .ok (.iload_n 3, 1) := by decide +kernel
theorem dX12_areBeside_24 : decode cX12_areBeside 24 = .ok (.iload 4, 2) := by decide +kernel
theorem dX12_areBeside_26 : decode cX12_areBeside 26 = .ok (.iadd, 1) := by decide +kernel
theorem dX12_areBeside_27 : decode cX12_areBeside 27 = .ok (.iconst 1, 1) := by decide +kernel
theorem dX12_areBeside_28 : decode cX12_areBeside 28 = .ok (.if_icmp .ne 7, 3) := by decide +kernel
theorem dX12_areBeside_31 : decode cX12_areBeside 31 = .ok (.iconst 1, 1) := by decide +kernel
theorem dX12_areBeside_32 : decode cX12_areBeside 32 = .ok (.goto 4, 3) := by decide +kernel
theorem dX12_areBeside_35 : decode cX12_areBeside 35 = .ok (.iconst 0, 1) := by decide +kernel
theorem dX12_areBeside_36 : decode cX12_areBeside 36 = .ok (.ireturn, 1) := by decide +kernel
theorem dX12_grid_0 : decode cX12_grid 0 = .ok (.aload_n 0, 1) := by decide +kernel
theorem dX12_grid_1 : decode cX12_grid 1 = .ok (.iload_n 1, 1) := by decide +kernel
theorem dX12_grid_2 : decode cX12_grid 2 = .ok (.i2l, 1) := by decide +kernel
theorem dX12_grid_3 : decode cX12_grid 3 = .ok (.lconst 1, 1) := by decide +kernel
theorem dX12_grid_4 : decode cX12_grid 4 = .ok (.ldc2_w 332, 3) := by decide +kernel
theorem dX12_grid_7 : decode cX12_grid 7 = .ok (.invokestatic 134, 3) := by decide +kernel
theorem dX12_grid_10 : decode cX12_grid 10 = .ok (.ifCond .eq 27, 3) := by decide +kernel
theorem dX12_grid_13 : decode cX12_grid 13 = .ok (.iload_n 2, 1) := by decide +kernel
theorem dX12_grid_14 : decode cX12_grid 14 = .ok (.i2l, 1) := by decide +kernel
theorem dX12_grid_15 : decode cX12_grid 15 = .ok (.lconst 1, 1) := by decide +kernel
theorem dX12_grid_16 : decode cX12_grid 16 = .ok (.ldc2_w 332, 3) := by decide +kernel
theorem dX12_grid_19 : decode cX12_grid 19 = .ok (.invokestatic 134, 3) := by decide +kernel
theorem dX12_grid_22 : decode cX12_grid 22 = .ok (.ifCond .eq 15, 3) := by decide +kernel
theorem dX12_grid_25 : decode cX12_grid 25 = .ok (.iload_n 1, 1) := by decide +kernel
theorem dX12_grid_26 : decode cX12_grid 26 = .ok (.iload_n 2, 1) := by decide +kernel
theorem dX12_grid_27 : decode cX12_grid 27 = .ok (.imul, 1) := by decide +kernel
theorem dX12_grid_28 : decode cX12_grid 28 = .ok (.bipush 16, 2) := by decide +kernel
theorem dX12_grid_30 : decode cX12_grid 30 = .ok (.if_icmp .gt 7, 3) := by decide +kernel
theorem dX12_grid_33 : decode cX12_grid 33 = .ok (.iconst 0, 1) := by decide +kernel
theorem dX12_grid_34 : decode cX12_grid 34 = .ok (.goto 4, 3) := by decide +kernel
theorem dX12_grid_37 : decode cX12_grid 37 = .ok (.iconst 1, 1) := by decide +kernel
theorem dX12_grid_38 : decode cX12_grid 38 = .ok (.putfield 75, 3) := by decide +kernel
theorem dX12_grid_41 : decode cX12_grid 41 = .ok (.aload_n 0, 1) := by decide +kernel
theorem dX12_grid_42 : decode cX12_grid 42 = .ok (.getfield 75, 3) := by decide +kernel
theorem dX12_grid_45 : decode cX12_grid 45 = .ok (.ifCond .le 5, 3) := by decide +kernel
theorem dX12_grid_48 : decode cX12_grid 48 = .ok (.iconst 0, 1) := by decide +kernel
theorem dX12_grid_49 : decode cX12_grid 49 = .ok (.ireturn, 1) := by decide +kernel
theorem dX12_grid_50 : decode cX12_grid 50 = .ok (.iload_n 1, 1) := by decide +kernel
theorem dX12_grid_51 : decode cX12_grid 51 = .ok (.iload_n 2, 1) := by decide +kernel
theorem dX12_grid_52 : decode cX12_grid 52 = .ok (.imul, 1) := by decide +kernel
theorem dX12_grid_53 : decode cX12_grid 53 = .ok (.istore_n 3, 1) := by decide +kernel
theorem dX12_grid_54 : decode cX12_grid 54 = .ok (.iconst 0, 1) := by decide +kernel
theorem dX12_grid_55 : decode cX12_grid 55 = .ok (.istore 4, 2) := by decide +kernel
theorem dX12_grid_57 : decode cX12_grid 57 = .ok (.iload 4, 2) := by decide +kernel
theorem dX12_grid_59 : decode cX12_grid 59 = .ok (.iload_n 3, 1) := by decide +kernel
theorem dX12_grid_60 : decode cX12_grid 60 = .ok (.if_icmp .ge 61, 3) := by decide +kernel
theorem dX12_grid_63 : decode cX12_grid 63 = .ok (.aload_n 0, 1) := by decide +kernel
theorem dX12_grid_64 : decode cX12_grid 64 = .ok (.getfield 42, 3) := by decide +kernel
theorem dX12_grid_67 : decode cX12_grid 67 = .ok (.iload 4, 2) := by decide +kernel
theorem dX12_grid_69 : decode cX12_grid 69 = .ok (.iconst 0, 1) := by decide +kernel
theorem dX12_grid_70 : decode cX12_grid 70 = .ok (.iastore, 1) := by decide +kernel
theorem dX12_grid_71 : decode cX12_grid 71 = .ok (.iconst 0, 1) := by decide +kernel
theorem dX12_grid_72 : decode cX12_grid 72 = .ok (.istore 5, 2) := by decide +kernel
theorem dX12_grid_74 : decode cX12_grid 74 = .ok (.iload 5, 2) := by decide +kernel
theorem dX12_grid_76 : decode cX12_grid 76 = .ok (.iload_n 3, 1) := by decide +kernel
theorem dX12_grid_77 : decode cX12_grid 77 = .ok (.if_icmp .ge 38, 3) := by decide +kernel
theorem dX12_grid_80 : decode cX12_grid 80 = .ok (.aload_n 0, 1) := by decide +kernel
theorem dX12_grid_81 : decode cX12_grid 81 = .ok (.getfield 42, 3) := by decide +kernel
theorem dX12_grid_84 : decode cX12_grid 84 = .ok (.iload 4, 2) := by decide +kernel
theorem dX12_grid_86 : decode cX12_grid 86 = .ok (.dup2, 1) := by decide +kernel
theorem dX12_grid_87 : decode cX12_grid 87 = .ok (.iaload, 1) := by decide +kernel
theorem dX12_grid_88 : decode cX12_grid 88 = .ok (.iload 4, 2) := by decide +kernel
theorem dX12_grid_90 : decode cX12_grid 90 = .ok (.iload 5, 2) := by decide +kernel
theorem dX12_grid_92 : decode cX12_grid 92 = .ok (.iload_n 1, 1) := by decide +kernel
theorem dX12_grid_93 : decode cX12_grid 93 = .ok (.invokestatic 334, 3) := by decide +kernel
theorem dX12_grid_96 : decode cX12_grid 96 = .ok (.ifCond .eq 10, 3) := by decide +kernel
theorem dX12_grid_99 : decode cX12_grid 99 = .ok (.iconst 1, 1) := by decide +kernel
theorem dX12_grid_100 : decode cX12_grid 100 = .ok (.iload 5, 2) := by decide +kernel
theorem dX12_grid_102 : decode cX12_grid 102 = .ok (.ishl, 1) := by decide +kernel
theorem dX12_grid_103 : decode cX12_grid 103 = .ok (.goto 4, 3) := by decide +kernel
theorem dX12_grid_106 : decode cX12_grid 106 = .ok (.iconst 0, 1) := by decide +kernel
theorem dX12_grid_107 : decode cX12_grid 107 = .ok (.ior, 1) := by decide +kernel
theorem dX12_grid_108 : decode cX12_grid 108 = .ok (.iastore, 1) := by decide +kernel
theorem dX12_grid_109 : decode cX12_grid 109 = .ok (.iinc 5 1, 3) := by decide +kernel
theorem dX12_grid_112 : decode cX12_grid 112 = .ok (.goto (-38), 3) := by decide +kernel
theorem dX12_grid_115 : decode cX12_grid 115 = .ok (.iinc 4 1, 3) := by decide +kernel
theorem dX12_grid_118 : decode cX12_grid 118 = .ok (.goto (-61), 3) := by decide +kernel
theorem dX12_grid_121 : decode cX12_grid 121 = .ok (.iconst (-1), 1) := by decide +kernel
theorem dX12_grid_122 : decode cX12_grid 122 = .ok (.istore 4, 2) := by decide +kernel
theorem dX12_grid_124 : decode cX12_grid 124 = .ok (.iconst 0, 1) := by decide +kernel
theorem dX12_grid_125 : decode cX12_grid 125 = .ok (.istore 5, 2) := by decide +kernel
theorem dX12_grid_127 : decode cX12_grid 127 = .ok (.iload 5, 2) := by decide +kernel
theorem dX12_grid_129 : decode cX12_grid 129 = .ok (.iconst 1, 1) := by decide +kernel
theorem dX12_grid_130 : decode cX12_grid 130 = .ok (.iload_n 3, 1) := by decide +kernel
theorem dX12_grid_131 : decode cX12_grid 131 = .ok (.ishl, 1) := by decide +kernel
theorem dX12_grid_132 : decode cX12_grid 132 = .ok (.if_icmp .ge 88, 3) := by decide +kernel
theorem dX12_grid_135 : decode cX12_grid 135 = .ok (.iload 4, 2) := by decide +kernel
theorem dX12_grid_137 : decode cX12_grid 137 = .ok (.iconst (-1), 1) := by decide +kernel
theorem dX12_grid_138 : decode cX12_grid 138 = .ok (.if_icmp .eq 19, 3) := by decide +kernel
theorem dX12_grid_141 : decode cX12_grid 141 = .ok (.iload 5, 2) := by decide +kernel
theorem dX12_grid_143 : decode cX12_grid 143 = .ok (.invokestatic 285, 3) := by decide +kernel
theorem dX12_grid_146 : decode cX12_grid 146 = .ok (.iload 4, 2) := by decide +kernel
theorem dX12_grid_148 : decode cX12_grid 148 = .ok (.invokestatic 285, 3) := by decide +kernel
theorem dX12_grid_151 : decode cX12_grid 151 = .ok (.if_icmp .lt 6, 3) := by decide +kernel
theorem dX12_grid_154 : decode cX12_grid 154 = .ok (.goto 60, 3) := by decide +kernel
theorem dX12_grid_157 : decode cX12_grid 157 = .ok (.iconst 1, 1) := by decide +kernel
theorem dX12_grid_158 : decode cX12_grid 158 = .ok (.istore 6, 2) := by decide +kernel
theorem dX12_grid_160 : decode cX12_grid 160 = .ok (.iconst 0, 1) := by decide +kernel
theorem dX12_grid_161 : decode cX12_grid 161 = .ok (.istore 7, 2) := by decide +kernel
theorem dX12_grid_163 : decode cX12_grid 163 = .ok (.iload 7, 2) := by decide +kernel
theorem dX12_grid_165 : decode cX12_grid 165 = .ok (.iload_n 3, 1) := by decide +kernel
theorem dX12_grid_166 : decode cX12_grid 166 = .ok (.if_icmp .ge 34, 3) := by decide +kernel
theorem dX12_grid_169 : decode cX12_grid 169 = .ok (.iload 6, 2) := by decide +kernel
theorem dX12_grid_171 : decode cX12_grid 171 = .ok (.ifCond .eq 29, 3) := by decide +kernel
theorem dX12_grid_174 : decode cX12_grid 174 = .ok (.aload_n 0, 1) := by decide +kernel
theorem dX12_grid_175 : decode cX12_grid 175 = .ok (.getfield 42, 3) := by decide +kernel
theorem dX12_grid_178 : decode cX12_grid 178 = .ok (.iload 7, 2) := by decide +kernel
theorem dX12_grid_180 : decode cX12_grid 180 = .ok (.iaload, 1) := by decide +kernel
theorem dX12_grid_181 : decode cX12_grid 181 = .ok (.iload 5, 2) := by decide +kernel
theorem dX12_grid_183 : decode cX12_grid 183 = .ok (.iand, 1) := by decide +kernel
theorem dX12_grid_184 : decode cX12_grid 184 = .ok (.ifCond .eq 7, 3) := by decide +kernel
theorem dX12_grid_187 : decode cX12_grid 187 = .ok (.iconst 1, 1) := by decide +kernel
theorem dX12_grid_188 : decode cX12_grid 188 = .ok (.goto 4, 3) := by decide +kernel
theorem dX12_grid_191 : decode cX12_grid 191 = .ok (.iconst 0, 1) := by decide +kernel
theorem dX12_grid_192 : decode cX12_grid 192 = .ok (.istore 6, 2) := by decide +kernel
theorem dX12_grid_194 : decode cX12_grid 194 = .ok (.iinc 7 1, 3) := by decide +kernel
theorem dX12_grid_197 : decode cX12_grid 197 = .ok (.goto (-34), 3) := by decide +kernel
theorem dX12_grid_200 : decode cX12_grid 200 = .ok (.iload 6, 2) := by decide +kernel
theorem dX12_grid_202 : decode cX12_grid 202 = .ok (.ifCond .eq 8, 3) := by decide +kernel
theorem dX12_grid_205 : decode cX12_grid 205 = .ok (.iload 5, 2) := by decide +kernel
theorem dX12_grid_207 : decode cX12_grid 207 = .ok (.goto 5, 3) := by decide +kernel
theorem dX12_grid_210 : decode cX12_grid 210 = .ok (.iload 4, 2) := by decide +kernel
theorem dX12_grid_212 : decode cX12_grid 212 = .ok (.istore 4, 2) := by decide +kernel
theorem dX12_grid_214 : decode cX12_grid 214 = .ok (.iinc 5 1, 3) := by decide +kernel
theorem dX12_grid_217 : decode cX12_grid 217 = .ok (.goto (-90), 3) := by decide +kernel
theorem dX12_grid_220 : decode cX12_grid 220 = .ok (.iload 4, 2) := by decide +kernel
theorem dX12_grid_222 : decode cX12_grid 222 = .ok (.ireturn, 1) := by decide +kernel
theorem dX12_savesOf_0 : decode cX12_savesOf 0 = .ok (.aload_n 0, 1) := by decide +kernel
theorem dX12_savesOf_1 : decode cX12_savesOf 1 = .ok (.invokevirtual 291, 3) := by decide +kernel
theorem dX12_savesOf_4 : decode cX12_savesOf 4 = .ok (.aload_n 0, 1) := by decide +kernel
theorem dX12_savesOf_5 : decode cX12_savesOf 5 = .ok (.iconst 0, 1) := by decide +kernel
theorem dX12_savesOf_6 : decode cX12_savesOf 6 = .ok (.invokevirtual 309, 3) := by decide +kernel
theorem dX12_savesOf_9 : decode cX12_savesOf 9 = .ok (.istore_n 2, 1) := by decide +kernel
theorem dX12_savesOf_10 : decode cX12_savesOf 10 = .ok (.sipush 376, 3) := by decide +kernel
theorem dX12_savesOf_13 : decode cX12_savesOf 13 = .ok (.iconst 5, 1) := by decide +kernel
theorem dX12_savesOf_14 : decode cX12_savesOf 14 = .ok (.iload_n 1, 1) := by decide +kernel
theorem dX12_savesOf_15 : decode cX12_savesOf 15 = .ok (.imul, 1) := by decide +kernel
theorem dX12_savesOf_16 : decode cX12_savesOf 16 = .ok (.iadd, 1) := by decide +kernel
theorem dX12_savesOf_17 : decode cX12_savesOf 17 = .ok (.istore_n 3, 1) := by decide +kernel
theorem dX12_savesOf_18 : decode cX12_savesOf 18 = .ok (.aload_n 0, 1) := by decide +kernel
theorem dX12_savesOf_19 : decode cX12_savesOf 19 = .ok (.getfield 30, 3) := by decide +kernel
theorem dX12_savesOf_22 : decode cX12_savesOf 22 = .ok (.aload_n 0, 1) := by decide +kernel
theorem dX12_savesOf_23 : decode cX12_savesOf 23 = .ok (.getfield 9, 3) := by decide +kernel
theorem dX12_savesOf_26 : decode cX12_savesOf 26 = .ok (.iload_n 3, 1) := by decide +kernel
theorem dX12_savesOf_27 : decode cX12_savesOf 27 = .ok (.iconst 1, 1) := by decide +kernel
theorem dX12_savesOf_28 : decode cX12_savesOf 28 = .ok (.iadd, 1) := by decide +kernel
theorem dX12_savesOf_29 : decode cX12_savesOf 29 = .ok (.iaload, 1) := by decide +kernel
theorem dX12_savesOf_30 : decode cX12_savesOf 30 = .ok (.dup2, 1) := by decide +kernel
theorem dX12_savesOf_31 : decode cX12_savesOf 31 = .ok (.iaload, 1) := by decide +kernel
theorem dX12_savesOf_32 : decode cX12_savesOf 32 = .ok (.iconst 1, 1) := by decide +kernel
theorem dX12_savesOf_33 : decode cX12_savesOf 33 = .ok (.aload_n 0, 1) := by decide +kernel
theorem dX12_savesOf_34 : decode cX12_savesOf 34 = .ok (.getfield 9, 3) := by decide +kernel
theorem dX12_savesOf_37 : decode cX12_savesOf 37 = .ok (.iload_n 3, 1) := by decide +kernel
theorem dX12_savesOf_38 : decode cX12_savesOf 38 = .ok (.iaload, 1) := by decide +kernel
theorem dX12_savesOf_39 : decode cX12_savesOf 39 = .ok (.ishl, 1) := by decide +kernel
theorem dX12_savesOf_40 : decode cX12_savesOf 40 = .ok (.ior, 1) := by decide +kernel
theorem dX12_savesOf_41 : decode cX12_savesOf 41 = .ok (.iastore, 1) := by decide +kernel
theorem dX12_savesOf_42 : decode cX12_savesOf 42 = .ok (.aload_n 0, 1) := by decide +kernel
theorem dX12_savesOf_43 : decode cX12_savesOf 43 = .ok (.getfield 9, 3) := by decide +kernel
theorem dX12_savesOf_46 : decode cX12_savesOf 46 = .ok (.iload_n 3, 1) := by decide +kernel
theorem dX12_savesOf_47 : decode cX12_savesOf 47 = .ok (.iconst 4, 1) := by decide +kernel
theorem dX12_savesOf_48 : decode cX12_savesOf 48 = .ok (.iadd, 1) := by decide +kernel
theorem dX12_savesOf_49 : decode cX12_savesOf 49 = .ok (.iaload, 1) := by decide +kernel
theorem dX12_savesOf_50 : decode cX12_savesOf 50 = .ok (.iconst 1, 1) := by decide +kernel
theorem dX12_savesOf_51 : decode cX12_savesOf 51 = .ok (.if_icmp .ne 27, 3) := by decide +kernel
theorem dX12_savesOf_54 : decode cX12_savesOf 54 = .ok (.aload_n 0, 1) := by decide +kernel
theorem dX12_savesOf_55 : decode cX12_savesOf 55 = .ok (.getfield 30, 3) := by decide +kernel
theorem dX12_savesOf_58 : decode cX12_savesOf 58 = .ok (.aload_n 0, 1) := by decide +kernel
theorem dX12_savesOf_59 : decode cX12_savesOf 59 = .ok (.getfield 9, 3) := by decide +kernel
theorem dX12_savesOf_62 : decode cX12_savesOf 62 = .ok (.iload_n 3, 1) := by decide +kernel
theorem dX12_savesOf_63 : decode cX12_savesOf 63 = .ok (.iaload, 1) := by decide +kernel
theorem dX12_savesOf_64 : decode cX12_savesOf 64 = .ok (.dup2, 1) := by decide +kernel
theorem dX12_savesOf_65 : decode cX12_savesOf 65 = .ok (.iaload, 1) := by decide +kernel
theorem dX12_savesOf_66 : decode cX12_savesOf 66 = .ok (.iconst 1, 1) := by decide +kernel
theorem dX12_savesOf_67 : decode cX12_savesOf 67 = .ok (.aload_n 0, 1) := by decide +kernel
theorem dX12_savesOf_68 : decode cX12_savesOf 68 = .ok (.getfield 9, 3) := by decide +kernel
theorem dX12_savesOf_71 : decode cX12_savesOf 71 = .ok (.iload_n 3, 1) := by decide +kernel
theorem dX12_savesOf_72 : decode cX12_savesOf 72 = .ok (.iconst 1, 1) := by decide +kernel
theorem dX12_savesOf_73 : decode cX12_savesOf 73 = .ok (.iadd, 1) := by decide +kernel
theorem dX12_savesOf_74 : decode cX12_savesOf 74 = .ok (.iaload, 1) := by decide +kernel
theorem dX12_savesOf_75 : decode cX12_savesOf 75 = .ok (.ishl, 1) := by decide +kernel
theorem dX12_savesOf_76 : decode cX12_savesOf 76 = .ok (.ior, 1) := by decide +kernel
theorem dX12_savesOf_77 : decode cX12_savesOf 77 = .ok (.iastore, 1) := by decide +kernel
theorem dX12_savesOf_78 : decode cX12_savesOf 78 = .ok (.aload_n 0, 1) := by decide +kernel
theorem dX12_savesOf_79 : decode cX12_savesOf 79 = .ok (.iconst 0, 1) := by decide +kernel
theorem dX12_savesOf_80 : decode cX12_savesOf 80 = .ok (.invokevirtual 309, 3) := by decide +kernel
theorem dX12_savesOf_83 : decode cX12_savesOf 83 = .ok (.istore 4, 2) := by decide +kernel
theorem dX12_savesOf_85 : decode cX12_savesOf 85 = .ok (.iload 4, 2) := by decide +kernel
theorem dX12_savesOf_87 : decode cX12_savesOf 87 = .ok (.iconst (-1), 1) := by decide +kernel
theorem dX12_savesOf_88 : decode cX12_savesOf 88 = .ok (.if_icmp .ne 7, 3) := by decide +kernel
theorem dX12_savesOf_91 : decode cX12_savesOf 91 = .ok (.iconst 0, 1) := by decide +kernel
theorem dX12_savesOf_92 : decode cX12_savesOf 92 = .ok (.goto 23, 3) := by decide +kernel
theorem dX12_savesOf_95 : decode cX12_savesOf 95 = .ok (.iload_n 2, 1) := by decide +kernel
theorem dX12_savesOf_96 : decode cX12_savesOf 96 = .ok (.iconst (-1), 1) := by decide +kernel
theorem dX12_savesOf_97 : decode cX12_savesOf 97 = .ok (.if_icmp .ne 8, 3) := by decide +kernel
theorem dX12_savesOf_100 : decode cX12_savesOf 100 = .ok (.bipush 100, 2) := by decide +kernel
theorem dX12_savesOf_102 : decode cX12_savesOf 102 = .ok (.goto 13, 3) := by decide +kernel
theorem dX12_savesOf_105 : decode cX12_savesOf 105 = .ok (.iload_n 2, 1) := by decide +kernel
theorem dX12_savesOf_106 : decode cX12_savesOf 106 = .ok (.invokestatic 285, 3) := by decide +kernel
theorem dX12_savesOf_109 : decode cX12_savesOf 109 = .ok (.iload 4, 2) := by decide +kernel
theorem dX12_savesOf_111 : decode cX12_savesOf 111 = .ok (.invokestatic 285, 3) := by decide +kernel
theorem dX12_savesOf_114 : decode cX12_savesOf 114 = .ok (.isub, 1) := by decide +kernel
theorem dX12_savesOf_115 : decode cX12_savesOf 115 = .ok (.ireturn, 1) := by decide +kernel
theorem dX12_hole_0 : decode cX12_hole 0 = .ok (.aload_n 0, 1) := by decide +kernel
theorem dX12_hole_1 : decode cX12_hole 1 = .ok (.iconst 0, 1) := by decide +kernel
theorem dX12_hole_2 : decode cX12_hole 2 = .ok (.putfield 75, 3) := by decide +kernel
theorem dX12_hole_5 : decode cX12_hole 5 = .ok (.iload_n 1, 1) := by decide +kernel
theorem dX12_hole_6 : decode cX12_hole 6 = .ok (.i2l, 1) := by decide +kernel
theorem dX12_hole_7 : decode cX12_hole 7 = .ok (.lconst 0, 1) := by decide +kernel
theorem dX12_hole_8 : decode cX12_hole 8 = .ok (.aload_n 0, 1) := by decide +kernel
theorem dX12_hole_9 : decode cX12_hole 9 = .ok (.getfield 9, 3) := by decide +kernel
theorem dX12_hole_12 : decode cX12_hole 12 = .ok (.iconst 5, 1) := by decide +kernel
theorem dX12_hole_13 : decode cX12_hole 13 = .ok (.iaload, 1) := by decide +kernel
theorem dX12_hole_14 : decode cX12_hole 14 = .ok (.iconst 1, 1) := by decide +kernel
theorem dX12_hole_15 : decode cX12_hole 15 = .ok (.isub, 1) := by decide +kernel
theorem dX12_hole_16 : decode cX12_hole 16 = .ok (.i2l, 1) := by decide +kernel
theorem dX12_hole_17 : decode cX12_hole 17 = .ok (.invokestatic 134, 3) := by decide +kernel
theorem dX12_hole_20 : decode cX12_hole 20 = .ok (.ifCond .ne 9, 3) := by decide +kernel
theorem dX12_hole_23 : decode cX12_hole 23 = .ok (.aload_n 0, 1) := by decide +kernel
theorem dX12_hole_24 : decode cX12_hole 24 = .ok (.iconst 1, 1) := by decide +kernel
theorem dX12_hole_25 : decode cX12_hole 25 = .ok (.invokevirtual 219, 3) := by decide +kernel
theorem dX12_hole_28 : decode cX12_hole 28 = .ok (.ireturn, 1) := by decide +kernel
theorem dX12_hole_29 : decode cX12_hole 29 = .ok (.iload_n 2, 1) := by decide +kernel
theorem dX12_hole_30 : decode cX12_hole 30 = .ok (.i2l, 1) := by decide +kernel
theorem dX12_hole_31 : decode cX12_hole 31 = .ok (.lconst 0, 1) := by decide +kernel
theorem dX12_hole_32 : decode cX12_hole 32 = .ok (.ldc2_w 338, 3) := by decide +kernel
theorem dX12_hole_35 : decode cX12_hole 35 = .ok (.invokestatic 134, 3) := by decide +kernel
theorem dX12_hole_38 : decode cX12_hole 38 = .ok (.ifCond .ne 9, 3) := by decide +kernel
theorem dX12_hole_41 : decode cX12_hole 41 = .ok (.aload_n 0, 1) := by decide +kernel
theorem dX12_hole_42 : decode cX12_hole 42 = .ok (.iconst 2, 1) := by decide +kernel
theorem dX12_hole_43 : decode cX12_hole 43 = .ok (.invokevirtual 219, 3) := by decide +kernel
theorem dX12_hole_46 : decode cX12_hole 46 = .ok (.ireturn, 1) := by decide +kernel
theorem dX12_hole_47 : decode cX12_hole 47 = .ok (.iload_n 2, 1) := by decide +kernel
theorem dX12_hole_48 : decode cX12_hole 48 = .ok (.iconst 4, 1) := by decide +kernel
theorem dX12_hole_49 : decode cX12_hole 49 = .ok (.if_icmp .ne 11, 3) := by decide +kernel
theorem dX12_hole_52 : decode cX12_hole 52 = .ok (.aload_n 0, 1) := by decide +kernel
theorem dX12_hole_53 : decode cX12_hole 53 = .ok (.iload_n 1, 1) := by decide +kernel
theorem dX12_hole_54 : decode cX12_hole 54 = .ok (.invokevirtual 340, 3) := by decide +kernel
theorem dX12_hole_57 : decode cX12_hole 57 = .ok (.goto 17, 3) := by decide +kernel
theorem dX12_hole_60 : decode cX12_hole 60 = .ok (.aload_n 0, 1) := by decide +kernel
theorem dX12_hole_61 : decode cX12_hole 61 = .ok (.getfield 9, 3) := by decide +kernel
theorem dX12_hole_64 : decode cX12_hole 64 = .ok (.sipush 376, 3) := by decide +kernel
theorem dX12_hole_67 : decode cX12_hole 67 = .ok (.iconst 5, 1) := by decide +kernel
theorem dX12_hole_68 : decode cX12_hole 68 = .ok (.iload_n 1, 1) := by decide +kernel
theorem dX12_hole_69 : decode cX12_hole 69 = .ok (.imul, 1) := by decide +kernel
theorem dX12_hole_70 : decode cX12_hole 70 = .ok (.iadd, 1) := by decide +kernel
theorem dX12_hole_71 : decode cX12_hole 71 = .ok (.iload_n 2, 1) := by decide +kernel
theorem dX12_hole_72 : decode cX12_hole 72 = .ok (.iadd, 1) := by decide +kernel
theorem dX12_hole_73 : decode cX12_hole 73 = .ok (.iaload, 1) := by decide +kernel
theorem dX12_hole_74 : decode cX12_hole 74 = .ok (.ireturn, 1) := by decide +kernel
theorem dX12_which_0 : decode cX12_which 0 = .ok (.aload_n 0, 1) := by decide +kernel
theorem dX12_which_1 : decode cX12_which 1 = .ok (.iconst 0, 1) := by decide +kernel
theorem dX12_which_2 : decode cX12_which 2 = .ok (.putfield 75, 3) := by decide +kernel
theorem dX12_which_5 : decode cX12_which 5 = .ok (.iconst (-1), 1) := by decide +kernel
theorem dX12_which_6 : decode cX12_which 6 = .ok (.istore_n 1, 1) := by decide +kernel
theorem dX12_which_7 : decode cX12_which 7 = .ok (.iconst 0, 1) := by decide +kernel
theorem dX12_which_8 : decode cX12_which 8 = .ok (.istore_n 2, 1) := by decide +kernel
theorem dX12_which_9 : decode cX12_which 9 = .ok (.iconst 0, 1) := by decide +kernel
theorem dX12_which_10 : decode cX12_which 10 = .ok (.istore_n 3, 1) := by decide +kernel
theorem dX12_which_11 : decode cX12_which 11 = .ok (.iload_n 3, 1) := by decide +kernel
theorem dX12_which_12 : decode cX12_which 12 = .ok (.aload_n 0, 1) := by decide +kernel
theorem dX12_which_13 : decode cX12_which 13 = .ok (.getfield 9, 3) := by decide +kernel
theorem dX12_which_16 : decode cX12_which 16 = .ok (.iconst 5, 1) := by decide +kernel
theorem dX12_which_17 : decode cX12_which 17 = .ok (.iaload, 1) := by decide +kernel
theorem dX12_which_18 : decode cX12_which 18 = .ok (.if_icmp .ge 84, 3) := by decide +kernel
theorem dX12_which_21 : decode cX12_which 21 = .ok (.aload_n 0, 1) := by decide +kernel
theorem dX12_which_22 : decode cX12_which 22 = .ok (.iload_n 3, 1) := by decide +kernel
theorem dX12_which_23 : decode cX12_which 23 = .ok (.invokevirtual 340, 3) := by decide +kernel
theorem dX12_which_26 : decode cX12_which 26 = .ok (.istore 4, 2) := by decide +kernel
theorem dX12_which_28 : decode cX12_which 28 = .ok (.iload_n 1, 1) := by decide +kernel
theorem dX12_which_29 : decode cX12_which 29 = .ok (.iconst (-1), 1) := by decide +kernel
theorem dX12_which_30 : decode cX12_which 30 = .ok (.if_icmp .eq 44, 3) := by decide +kernel
theorem dX12_which_33 : decode cX12_which 33 = .ok (.iload 4, 2) := by decide +kernel
theorem dX12_which_35 : decode cX12_which 35 = .ok (.iload_n 2, 1) := by decide +kernel
theorem dX12_which_36 : decode cX12_which 36 = .ok (.if_icmp .ne 38, 3) := by decide +kernel
theorem dX12_which_39 : decode cX12_which 39 = .ok (.aload_n 0, 1) := by decide +kernel
theorem dX12_which_40 : decode cX12_which 40 = .ok (.getfield 9, 3) := by decide +kernel
theorem dX12_which_43 : decode cX12_which 43 = .ok (.sipush 376, 3) := by decide +kernel
theorem dX12_which_46 : decode cX12_which 46 = .ok (.iconst 5, 1) := by decide +kernel
theorem dX12_which_47 : decode cX12_which 47 = .ok (.iload_n 3, 1) := by decide +kernel
theorem dX12_which_48 : decode cX12_which 48 = .ok (.imul, 1) := by decide +kernel
theorem dX12_which_49 : decode cX12_which 49 = .ok (.iadd, 1) := by decide +kernel
theorem dX12_which_50 : decode cX12_which 50 = .ok (.iconst 3, 1) := by decide +kernel
theorem dX12_which_51 : decode cX12_which 51 = .ok (.iadd, 1) := by decide +kernel
theorem dX12_which_52 : decode cX12_which 52 = .ok (.iaload, 1) := by decide +kernel
theorem dX12_which_53 : decode cX12_which 53 = .ok (.aload_n 0, 1) := by decide +kernel
theorem dX12_which_54 : decode cX12_which 54 = .ok (.getfield 9, 3) := by decide +kernel
theorem dX12_which_57 : decode cX12_which 57 = .ok (.sipush 376, 3) := by decide +kernel
theorem dX12_which_60 : decode cX12_which 60 = .ok (.iconst 5, 1) := by decide +kernel
theorem dX12_which_61 : decode cX12_which 61 = .ok (.iload_n 1, 1) := by decide +kernel
theorem dX12_which_62 : decode cX12_which 62 = .ok (.imul, 1) := by decide +kernel
theorem dX12_which_63 : decode cX12_which 63 = .ok (.iadd, 1) := by decide +kernel
theorem dX12_which_64 : decode cX12_which 64 = .ok (.iconst 3, 1) := by decide +kernel
theorem dX12_which_65 : decode cX12_which 65 = .ok (.iadd, 1) := by decide +kernel
theorem dX12_which_66 : decode cX12_which 66 = .ok (.iaload, 1) := by decide +kernel
theorem dX12_which_67 : decode cX12_which 67 = .ok (.if_icmp .ge 7, 3) := by decide +kernel
theorem dX12_which_70 : decode cX12_which 70 = .ok (.iconst 1, 1) := by decide +kernel
theorem dX12_which_71 : decode cX12_which 71 = .ok (.goto 4, 3) := by decide +kernel
theorem dX12_which_74 : decode cX12_which 74 = .ok (.iconst 0, 1) := by decide +kernel
theorem dX12_which_75 : decode cX12_which 75 = .ok (.istore 5, 2) := by decide +kernel
theorem dX12_which_77 : decode cX12_which 77 = .ok (.iload 4, 2) := by decide +kernel
theorem dX12_which_79 : decode cX12_which 79 = .ok (.iload_n 2, 1) := by decide +kernel
theorem dX12_which_80 : decode cX12_which 80 = .ok (.if_icmp .gt 11, 3) := by decide +kernel
theorem dX12_which_83 : decode cX12_which 83 = .ok (.iload 5, 2) := by decide +kernel
theorem dX12_which_85 : decode cX12_which 85 = .ok (.ifCond .ne 6, 3) := by decide +kernel
theorem dX12_which_88 : decode cX12_which 88 = .ok (.goto 8, 3) := by decide +kernel
theorem dX12_which_91 : decode cX12_which 91 = .ok (.iload_n 3, 1) := by decide +kernel
theorem dX12_which_92 : decode cX12_which 92 = .ok (.istore_n 1, 1) := by decide +kernel
theorem dX12_which_93 : decode cX12_which 93 = .ok (.iload 4, 2) := by decide +kernel
theorem dX12_which_95 : decode cX12_which 95 = .ok (.istore_n 2, 1) := by decide +kernel
theorem dX12_which_96 : decode cX12_which 96 = .ok (.iinc 3 1, 3) := by decide +kernel
theorem dX12_which_99 : decode cX12_which 99 = .ok (.goto (-88), 3) := by decide +kernel
theorem dX12_which_102 : decode cX12_which 102 = .ok (.iload_n 1, 1) := by decide +kernel
theorem dX12_which_103 : decode cX12_which 103 = .ok (.ireturn, 1) := by decide +kernel
theorem dX12_layWalks_0 : decode cX12_layWalks 0 = .ok (.iconst 0, 1) := by decide +kernel
theorem dX12_layWalks_1 : decode cX12_layWalks 1 = .ok (.istore_n 1, 1) := by decide +kernel
theorem dX12_layWalks_2 : decode cX12_layWalks 2 = .ok (.iload_n 1, 1) := by decide +kernel
theorem dX12_layWalks_3 : decode cX12_layWalks 3 = .ok (.bipush 16, 2) := by decide +kernel
theorem dX12_layWalks_5 : decode cX12_layWalks 5 = .ok (.if_icmp .ge 46, 3) := by decide +kernel
theorem dX12_layWalks_8 : decode cX12_layWalks 8 = .ok (.iconst 0, 1) := by decide +kernel
theorem dX12_layWalks_9 : decode cX12_layWalks 9 = .ok (.istore_n 2, 1) := by decide +kernel
theorem dX12_layWalks_10 : decode cX12_layWalks 10 = .ok (.iload_n 2, 1) := by decide +kernel
theorem dX12_layWalks_11 : decode cX12_layWalks 11 = .ok (.bipush 16, 2) := by decide +kernel
theorem dX12_layWalks_13 : decode cX12_layWalks 13 = .ok (.if_icmp .ge 32, 3) := by decide +kernel
theorem dX12_layWalks_16 : decode cX12_layWalks 16 = .ok (.aload_n 0, 1) := by decide +kernel
theorem dX12_layWalks_17 : decode cX12_layWalks 17 = .ok (.getfield 45, 3) := by decide +kernel
theorem dX12_layWalks_20 : decode cX12_layWalks 20 = .ok (.bipush 16, 2) := by decide +kernel
theorem dX12_layWalks_22 : decode cX12_layWalks 22 = .ok (.iload_n 1, 1) := by decide +kernel
theorem dX12_layWalks_23 : decode cX12_layWalks 23 = .ok (.imul, 1) := by decide +kernel
theorem dX12_layWalks_24 : decode cX12_layWalks 24 = .ok (.iload_n 2, 1) := by decide +kernel
theorem dX12_layWalks_25 : decode cX12_layWalks 25 = .ok (.iadd, 1) := by decide +kernel
theorem dX12_layWalks_26 : decode cX12_layWalks 26 = .ok (.iload_n 1, 1) := by decide +kernel
theorem dX12_layWalks_27 : decode cX12_layWalks 27 = .ok (.iload_n 2, 1) := by decide +kernel
theorem dX12_layWalks_28 : decode cX12_layWalks 28 = .ok (.if_icmp .ne 7, 3) := by decide +kernel
theorem dX12_layWalks_31 : decode cX12_layWalks 31 = .ok (.iconst 0, 1) := by decide +kernel
theorem dX12_layWalks_32 : decode cX12_layWalks 32 = .ok (.goto 6, 3) := by decide +kernel
theorem dX12_layWalks_35 : decode cX12_layWalks 35 = .ok (.ldc_w 343, 3) := by decide +kernel
theorem dX12_layWalks_38 : decode cX12_layWalks 38 = .ok (.iastore, 1) := by decide +kernel
theorem dX12_layWalks_39 : decode cX12_layWalks 39 = .ok (.iinc 2 1, 3) := by decide +kernel
theorem dX12_layWalks_42 : decode cX12_layWalks 42 = .ok (.goto (-32), 3) := by decide +kernel
theorem dX12_layWalks_45 : decode cX12_layWalks 45 = .ok (.iinc 1 1, 3) := by decide +kernel
theorem dX12_layWalks_48 : decode cX12_layWalks 48 = .ok (.goto (-46), 3) := by decide +kernel
theorem dX12_layWalks_51 : decode cX12_layWalks 51 = .ok (.bipush 8, 2) := by decide +kernel
theorem dX12_layWalks_53 : decode cX12_layWalks 53 = .ok (.istore_n 1, 1) := by decide +kernel
theorem dX12_layWalks_54 : decode cX12_layWalks 54 = .ok (.iload_n 1, 1) := by decide +kernel
theorem dX12_layWalks_55 : decode cX12_layWalks 55 = .ok (.bipush 8, 2) := by decide +kernel
theorem dX12_layWalks_57 : decode cX12_layWalks 57 = .ok (.iconst 4, 1) := by decide +kernel
theorem dX12_layWalks_58 : decode cX12_layWalks 58 = .ok (.aload_n 0, 1) := by decide +kernel
theorem dX12_layWalks_59 : decode cX12_layWalks 59 = .ok (.getfield 9, 3) := by decide +kernel
theorem dX12_layWalks_62 : decode cX12_layWalks 62 = .ok (.iconst 2, 1) := by decide +kernel
theorem dX12_layWalks_63 : decode cX12_layWalks 63 = .ok (.iaload, 1) := by decide +kernel
theorem dX12_layWalks_64 : decode cX12_layWalks 64 = .ok (.imul, 1) := by decide +kernel
theorem dX12_layWalks_65 : decode cX12_layWalks 65 = .ok (.iadd, 1) := by decide +kernel
theorem dX12_layWalks_66 : decode cX12_layWalks 66 = .ok (.if_icmp .ge 57, 3) := by decide +kernel
theorem dX12_layWalks_69 : decode cX12_layWalks 69 = .ok (.aload_n 0, 1) := by decide +kernel
theorem dX12_layWalks_70 : decode cX12_layWalks 70 = .ok (.getfield 45, 3) := by decide +kernel
theorem dX12_layWalks_73 : decode cX12_layWalks 73 = .ok (.bipush 16, 2) := by decide +kernel
theorem dX12_layWalks_75 : decode cX12_layWalks 75 = .ok (.aload_n 0, 1) := by decide +kernel
theorem dX12_layWalks_76 : decode cX12_layWalks 76 = .ok (.getfield 9, 3) := by decide +kernel
theorem dX12_layWalks_79 : decode cX12_layWalks 79 = .ok (.iload_n 1, 1) := by decide +kernel
theorem dX12_layWalks_80 : decode cX12_layWalks 80 = .ok (.iaload, 1) := by decide +kernel
theorem dX12_layWalks_81 : decode cX12_layWalks 81 = .ok (.imul, 1) := by decide +kernel
theorem dX12_layWalks_82 : decode cX12_layWalks 82 = .ok (.aload_n 0, 1) := by decide +kernel
theorem dX12_layWalks_83 : decode cX12_layWalks 83 = .ok (.getfield 9, 3) := by decide +kernel
theorem dX12_layWalks_86 : decode cX12_layWalks 86 = .ok (.iload_n 1, 1) := by decide +kernel
theorem dX12_layWalks_87 : decode cX12_layWalks 87 = .ok (.iconst 1, 1) := by decide +kernel
theorem dX12_layWalks_88 : decode cX12_layWalks 88 = .ok (.iadd, 1) := by decide +kernel
theorem dX12_layWalks_89 : decode cX12_layWalks 89 = .ok (.iaload, 1) := by decide +kernel
theorem dX12_layWalks_90 : decode cX12_layWalks 90 = .ok (.iadd, 1) := by decide +kernel
theorem dX12_layWalks_91 : decode cX12_layWalks 91 = .ok (.iconst 1, 1) := by decide +kernel
theorem dX12_layWalks_92 : decode cX12_layWalks 92 = .ok (.iastore, 1) := by decide +kernel
theorem dX12_layWalks_93 : decode cX12_layWalks 93 = .ok (.aload_n 0, 1) := by decide +kernel
theorem dX12_layWalks_94 : decode cX12_layWalks 94 = .ok (.getfield 45, 3) := by decide +kernel
theorem dX12_layWalks_97 : decode cX12_layWalks 97 = .ok (.bipush 16, 2) := by decide +kernel
theorem dX12_layWalks_99 : decode cX12_layWalks 99 = .ok (.aload_n 0, 1) := by decide +kernel
theorem dX12_layWalks_100 : decode cX12_layWalks 100 = .ok (.getfield 9, 3) := by decide +kernel
theorem dX12_layWalks_103 : decode cX12_layWalks 103 = .ok (.iload_n 1, 1) := by decide +kernel
theorem dX12_layWalks_104 : decode cX12_layWalks 104 = .ok (.iconst 1, 1) := by decide +kernel
theorem dX12_layWalks_105 : decode cX12_layWalks 105 = .ok (.iadd, 1) := by decide +kernel
theorem dX12_layWalks_106 : decode cX12_layWalks 106 = .ok (.iaload, 1) := by decide +kernel
theorem dX12_layWalks_107 : decode cX12_layWalks 107 = .ok (.imul, 1) := by decide +kernel
theorem dX12_layWalks_108 : decode cX12_layWalks 108 = .ok (.aload_n 0, 1) := by decide +kernel
theorem dX12_layWalks_109 : decode cX12_layWalks 109 = .ok (.getfield 9, 3) := by decide +kernel
theorem dX12_layWalks_112 : decode cX12_layWalks 112 = .ok (.iload_n 1, 1) := by decide +kernel
theorem dX12_layWalks_113 : decode cX12_layWalks 113 = .ok (.iaload, 1) := by decide +kernel
theorem dX12_layWalks_114 : decode cX12_layWalks 114 = .ok (.iadd, 1) := by decide +kernel
theorem dX12_layWalks_115 : decode cX12_layWalks 115 = .ok (.iconst 1, 1) := by decide +kernel
theorem dX12_layWalks_116 : decode cX12_layWalks 116 = .ok (.iastore, 1) := by decide +kernel
theorem dX12_layWalks_117 : decode cX12_layWalks 117 = .ok (.iinc 1 4, 3) := by decide +kernel
theorem dX12_layWalks_120 : decode cX12_layWalks 120 = .ok (.goto (-66), 3) := by decide +kernel
theorem dX12_layWalks_123 : decode cX12_layWalks 123 = .ok (.iconst 0, 1) := by decide +kernel
theorem dX12_layWalks_124 : decode cX12_layWalks 124 = .ok (.istore_n 1, 1) := by decide +kernel
theorem dX12_layWalks_125 : decode cX12_layWalks 125 = .ok (.iload_n 1, 1) := by decide +kernel
theorem dX12_layWalks_126 : decode cX12_layWalks 126 = .ok (.aload_n 0, 1) := by decide +kernel
theorem dX12_layWalks_127 : decode cX12_layWalks 127 = .ok (.invokevirtual 228, 3) := by decide +kernel
theorem dX12_layWalks_130 : decode cX12_layWalks 130 = .ok (.if_icmp .ge 89, 3) := by decide +kernel
theorem dX12_layWalks_133 : decode cX12_layWalks 133 = .ok (.iconst 0, 1) := by decide +kernel
theorem dX12_layWalks_134 : decode cX12_layWalks 134 = .ok (.istore_n 2, 1) := by decide +kernel
theorem dX12_layWalks_135 : decode cX12_layWalks 135 = .ok (.iload_n 2, 1) := by decide +kernel
theorem dX12_layWalks_136 : decode cX12_layWalks 136 = .ok (.aload_n 0, 1) := by decide +kernel
theorem dX12_layWalks_137 : decode cX12_layWalks 137 = .ok (.invokevirtual 228, 3) := by decide +kernel
theorem dX12_layWalks_140 : decode cX12_layWalks 140 = .ok (.if_icmp .ge 73, 3) := by decide +kernel
theorem dX12_layWalks_143 : decode cX12_layWalks 143 = .ok (.iconst 0, 1) := by decide +kernel
theorem dX12_layWalks_144 : decode cX12_layWalks 144 = .ok (.istore_n 3, 1) := by decide +kernel
theorem dX12_layWalks_145 : decode cX12_layWalks 145 = .ok (.iload_n 3, 1) := by decide +kernel
theorem dX12_layWalks_146 : decode cX12_layWalks 146 = .ok (.aload_n 0, 1) := by decide +kernel
theorem dX12_layWalks_147 : decode cX12_layWalks 147 = .ok (.invokevirtual 228, 3) := by decide +kernel
theorem dX12_layWalks_150 : decode cX12_layWalks 150 = .ok (.if_icmp .ge 57, 3) := by decide +kernel
theorem dX12_layWalks_153 : decode cX12_layWalks 153 = .ok (.aload_n 0, 1) := by decide +kernel
theorem dX12_layWalks_154 : decode cX12_layWalks 154 = .ok (.getfield 45, 3) := by decide +kernel
theorem dX12_layWalks_157 : decode cX12_layWalks 157 = .ok (.bipush 16, 2) := by decide +kernel
theorem dX12_layWalks_159 : decode cX12_layWalks 159 = .ok (.iload_n 2, 1) := by decide +kernel
theorem dX12_layWalks_160 : decode cX12_layWalks 160 = .ok (.imul, 1) := by decide +kernel
theorem dX12_layWalks_161 : decode cX12_layWalks 161 = .ok (.iload_n 3, 1) := by decide +kernel
theorem dX12_layWalks_162 : decode cX12_layWalks 162 = .ok (.iadd, 1) := by decide +kernel
theorem dX12_layWalks_163 : decode cX12_layWalks 163 = .ok (.aload_n 0, 1) := by decide +kernel
theorem dX12_layWalks_164 : decode cX12_layWalks 164 = .ok (.getfield 45, 3) := by decide +kernel
theorem dX12_layWalks_167 : decode cX12_layWalks 167 = .ok (.bipush 16, 2) := by decide +kernel
theorem dX12_layWalks_169 : decode cX12_layWalks 169 = .ok (.iload_n 2, 1) := by decide +kernel
theorem dX12_layWalks_170 : decode cX12_layWalks 170 = .ok (.imul, 1) := by decide +kernel
theorem dX12_layWalks_171 : decode cX12_layWalks 171 = .ok (.iload_n 3, 1) := by decide +kernel
theorem dX12_layWalks_172 : decode cX12_layWalks 172 = .ok (.iadd, 1) := by decide +kernel
theorem dX12_layWalks_173 : decode cX12_layWalks 173 = .ok (.iaload, 1) := by decide +kernel
theorem dX12_layWalks_174 : decode cX12_layWalks 174 = .ok (.aload_n 0, 1) := by decide +kernel
theorem dX12_layWalks_175 : decode cX12_layWalks 175 = .ok (.getfield 45, 3) := by decide +kernel
theorem dX12_layWalks_178 : decode cX12_layWalks 178 = .ok (.bipush 16, 2) := by decide +kernel
theorem dX12_layWalks_180 : decode cX12_layWalks 180 = .ok (.iload_n 2, 1) := by decide +kernel
theorem dX12_layWalks_181 : decode cX12_layWalks 181 = .ok (.imul, 1) := by decide +kernel
theorem dX12_layWalks_182 : decode cX12_layWalks 182 = .ok (.iload_n 1, 1) := by decide +kernel
theorem dX12_layWalks_183 : decode cX12_layWalks 183 = .ok (.iadd, 1) := by decide +kernel
theorem dX12_layWalks_184 : decode cX12_layWalks 184 = .ok (.iaload, 1) := by decide +kernel
theorem dX12_layWalks_185 : decode cX12_layWalks 185 = .ok (.aload_n 0, 1) := by decide +kernel
theorem dX12_layWalks_186 : decode cX12_layWalks 186 = .ok (.getfield 45, 3) := by decide +kernel
theorem dX12_layWalks_189 : decode cX12_layWalks 189 = .ok (.bipush 16, 2) := by decide +kernel
theorem dX12_layWalks_191 : decode cX12_layWalks 191 = .ok (.iload_n 1, 1) := by decide +kernel
theorem dX12_layWalks_192 : decode cX12_layWalks 192 = .ok (.imul, 1) := by decide +kernel
theorem dX12_layWalks_193 : decode cX12_layWalks 193 = .ok (.iload_n 3, 1) := by decide +kernel
theorem dX12_layWalks_194 : decode cX12_layWalks 194 = .ok (.iadd, 1) := by decide +kernel
theorem dX12_layWalks_195 : decode cX12_layWalks 195 = .ok (.iaload, 1) := by decide +kernel
theorem dX12_layWalks_196 : decode cX12_layWalks 196 = .ok (.iadd, 1) := by decide +kernel
theorem dX12_layWalks_197 : decode cX12_layWalks 197 = .ok (.invokestatic 344, 3) := by decide +kernel
theorem dX12_layWalks_200 : decode cX12_layWalks 200 = .ok (.iastore, 1) := by decide +kernel
theorem dX12_layWalks_201 : decode cX12_layWalks 201 = .ok (.iinc 3 1, 3) := by decide +kernel
theorem dX12_layWalks_204 : decode cX12_layWalks 204 = .ok (.goto (-59), 3) := by decide +kernel
theorem dX12_layWalks_207 : decode cX12_layWalks 207 = .ok (.iinc 2 1, 3) := by decide +kernel
theorem dX12_layWalks_210 : decode cX12_layWalks 210 = .ok (.goto (-75), 3) := by decide +kernel
theorem dX12_layWalks_213 : decode cX12_layWalks 213 = .ok (.iinc 1 1, 3) := by decide +kernel
theorem dX12_layWalks_216 : decode cX12_layWalks 216 = .ok (.goto (-91), 3) := by decide +kernel
theorem dX12_layWalks_219 : decode cX12_layWalks 219 = .ok (.return_, 1) := by decide +kernel
theorem dX12_walk_0 : decode cX12_walk 0 = .ok (.aload_n 0, 1) := by decide +kernel
theorem dX12_walk_1 : decode cX12_walk 1 = .ok (.iconst 0, 1) := by decide +kernel
theorem dX12_walk_2 : decode cX12_walk 2 = .ok (.putfield 75, 3) := by decide +kernel
theorem dX12_walk_5 : decode cX12_walk 5 = .ok (.aload_n 0, 1) := by decide +kernel
theorem dX12_walk_6 : decode cX12_walk 6 = .ok (.iload_n 1, 1) := by decide +kernel
theorem dX12_walk_7 : decode cX12_walk 7 = .ok (.invokevirtual 240, 3) := by decide +kernel
theorem dX12_walk_10 : decode cX12_walk 10 = .ok (.ifCond .eq 11, 3) := by decide +kernel
theorem dX12_walk_13 : decode cX12_walk 13 = .ok (.aload_n 0, 1) := by decide +kernel
theorem dX12_walk_14 : decode cX12_walk 14 = .ok (.iload_n 2, 1) := by decide +kernel
theorem dX12_walk_15 : decode cX12_walk 15 = .ok (.invokevirtual 240, 3) := by decide +kernel
theorem dX12_walk_18 : decode cX12_walk 18 = .ok (.ifCond .ne 9, 3) := by decide +kernel
theorem dX12_walk_21 : decode cX12_walk 21 = .ok (.aload_n 0, 1) := by decide +kernel
theorem dX12_walk_22 : decode cX12_walk 22 = .ok (.iconst 1, 1) := by decide +kernel
theorem dX12_walk_23 : decode cX12_walk 23 = .ok (.invokevirtual 219, 3) := by decide +kernel
theorem dX12_walk_26 : decode cX12_walk 26 = .ok (.ireturn, 1) := by decide +kernel
theorem dX12_walk_27 : decode cX12_walk 27 = .ok (.aload_n 0, 1) := by decide +kernel
theorem dX12_walk_28 : decode cX12_walk 28 = .ok (.invokevirtual 347, 3) := by decide +kernel
theorem dX12_walk_31 : decode cX12_walk 31 = .ok (.aload_n 0, 1) := by decide +kernel
theorem dX12_walk_32 : decode cX12_walk 32 = .ok (.getfield 45, 3) := by decide +kernel
theorem dX12_walk_35 : decode cX12_walk 35 = .ok (.bipush 16, 2) := by decide +kernel
theorem dX12_walk_37 : decode cX12_walk 37 = .ok (.iload_n 1, 1) := by decide +kernel
theorem dX12_walk_38 : decode cX12_walk 38 = .ok (.imul, 1) := by decide +kernel
theorem dX12_walk_39 : decode cX12_walk 39 = .ok (.iload_n 2, 1) := by decide +kernel
theorem dX12_walk_40 : decode cX12_walk 40 = .ok (.iadd, 1) := by decide +kernel
theorem dX12_walk_41 : decode cX12_walk 41 = .ok (.iaload, 1) := by decide +kernel
theorem dX12_walk_42 : decode cX12_walk 42 = .ok (.istore_n 3, 1) := by decide +kernel
theorem dX12_walk_43 : decode cX12_walk 43 = .ok (.iload_n 3, 1) := by decide +kernel
theorem dX12_walk_44 : decode cX12_walk 44 = .ok (.ldc_w 343, 3) := by decide +kernel
theorem dX12_walk_47 : decode cX12_walk 47 = .ok (.if_icmp .lt 7, 3) := by decide +kernel
theorem dX12_walk_50 : decode cX12_walk 50 = .ok (.iconst (-1), 1) := by decide +kernel
theorem dX12_walk_51 : decode cX12_walk 51 = .ok (.goto 4, 3) := by decide +kernel
theorem dX12_walk_54 : decode cX12_walk 54 = .ok (.iload_n 3, 1) := by decide +kernel
theorem dX12_walk_55 : decode cX12_walk 55 = .ok (.ireturn, 1) := by decide +kernel
theorem dX12_needed_0 : decode cX12_needed 0 = .ok (.iconst 0, 1) := by decide +kernel
theorem dX12_needed_1 : decode cX12_needed 1 = .ok (.istore_n 2, 1) := by decide +kernel
theorem dX12_needed_2 : decode cX12_needed 2 = .ok (.iconst 0, 1) := by decide +kernel
theorem dX12_needed_3 : decode cX12_needed 3 = .ok (.istore_n 3, 1) := by decide +kernel
theorem dX12_needed_4 : decode cX12_needed 4 = .ok (.iload_n 3, 1) := by decide +kernel
theorem dX12_needed_5 : decode cX12_needed 5 = .ok (.aload_n 0, 1) := by decide +kernel
theorem dX12_needed_6 : decode cX12_needed 6 = .ok (.getfield 9, 3) := by decide +kernel
theorem dX12_needed_9 : decode cX12_needed 9 = .ok (.iconst 4, 1) := by decide +kernel
theorem dX12_needed_10 : decode cX12_needed 10 = .ok (.iaload, 1) := by decide +kernel
theorem dX12_needed_11 : decode cX12_needed 11 = .ok (.if_icmp .ge 52, 3) := by decide +kernel
theorem dX12_needed_14 : decode cX12_needed 14 = .ok (.aload_n 0, 1) := by decide +kernel
theorem dX12_needed_15 : decode cX12_needed 15 = .ok (.iload_n 3, 1) := by decide +kernel
theorem dX12_needed_16 : decode cX12_needed 16 = .ok (.iload_n 1, 1) := by decide +kernel
theorem dX12_needed_17 : decode cX12_needed 17 = .ok (.invokevirtual 250, 3) := by decide +kernel
theorem dX12_needed_20 : decode cX12_needed 20 = .ok (.ifCond .eq 37, 3) := by decide +kernel
theorem dX12_needed_23 : decode cX12_needed 23 = .ok (.aload_n 0, 1) := by decide +kernel
theorem dX12_needed_24 : decode cX12_needed 24 = .ok (.getfield 9, 3) := by decide +kernel
theorem dX12_needed_27 : decode cX12_needed 27 = .ok (.sipush 256, 3) := by decide +kernel
theorem dX12_needed_30 : decode cX12_needed 30 = .ok (.iconst 5, 1) := by decide +kernel
theorem dX12_needed_31 : decode cX12_needed 31 = .ok (.iload_n 3, 1) := by decide +kernel
theorem dX12_needed_32 : decode cX12_needed 32 = .ok (.imul, 1) := by decide +kernel
theorem dX12_needed_33 : decode cX12_needed 33 = .ok (.iadd, 1) := by decide +kernel
theorem dX12_needed_34 : decode cX12_needed 34 = .ok (.iconst 1, 1) := by decide +kernel
theorem dX12_needed_35 : decode cX12_needed 35 = .ok (.iadd, 1) := by decide +kernel
theorem dX12_needed_36 : decode cX12_needed 36 = .ok (.iaload, 1) := by decide +kernel
theorem dX12_needed_37 : decode cX12_needed 37 = .ok (.ifCond .le 20, 3) := by decide +kernel
theorem dX12_needed_40 : decode cX12_needed 40 = .ok (.iload_n 2, 1) := by decide +kernel
theorem dX12_needed_41 : decode cX12_needed 41 = .ok (.iconst 1, 1) := by decide +kernel
theorem dX12_needed_42 : decode cX12_needed 42 = .ok (.aload_n 0, 1) := by decide +kernel
theorem dX12_needed_43 : decode cX12_needed 43 = .ok (.getfield 9, 3) := by decide +kernel
theorem dX12_needed_46 : decode cX12_needed 46 = .ok (.sipush 256, 3) := by decide +kernel
theorem dX12_needed_49 : decode cX12_needed 49 = .ok (.iconst 5, 1) := by decide +kernel
theorem dX12_needed_50 : decode cX12_needed 50 = .ok (.iload_n 3, 1) := by decide +kernel
theorem dX12_needed_51 : decode cX12_needed 51 = .ok (.imul, 1) := by decide +kernel
theorem dX12_needed_52 : decode cX12_needed 52 = .ok (.iadd, 1) := by decide +kernel
theorem dX12_needed_53 : decode cX12_needed 53 = .ok (.iaload, 1) := by decide +kernel
theorem dX12_needed_54 : decode cX12_needed 54 = .ok (.ishl, 1) := by decide +kernel
theorem dX12_needed_55 : decode cX12_needed 55 = .ok (.ior, 1) := by decide +kernel
theorem dX12_needed_56 : decode cX12_needed 56 = .ok (.istore_n 2, 1) := by decide +kernel
theorem dX12_needed_57 : decode cX12_needed 57 = .ok (.iinc 3 1, 3) := by decide +kernel
theorem dX12_needed_60 : decode cX12_needed 60 = .ok (.goto (-56), 3) := by decide +kernel
theorem dX12_needed_63 : decode cX12_needed 63 = .ok (.iload_n 2, 1) := by decide +kernel
theorem dX12_needed_64 : decode cX12_needed 64 = .ok (.ireturn, 1) := by decide +kernel
theorem dX12_isPlace_0 : decode cX12_isPlace 0 = .ok (.iload_n 2, 1) := by decide +kernel
theorem dX12_isPlace_1 : decode cX12_isPlace 1 = .ok (.bipush 16, 2) := by decide +kernel
theorem dX12_isPlace_3 : decode cX12_isPlace 3 = .ok (.idiv, 1) := by decide +kernel
theorem dX12_isPlace_4 : decode cX12_isPlace 4 = .ok (.aload_n 0, 1) := by decide +kernel
theorem dX12_isPlace_5 : decode cX12_isPlace 5 = .ok (.invokevirtual 228, 3) := by decide +kernel
theorem dX12_isPlace_8 : decode cX12_isPlace 8 = .ok (.if_icmp .ge 33, 3) := by decide +kernel
theorem dX12_isPlace_11 : decode cX12_isPlace 11 = .ok (.iload_n 1, 1) := by decide +kernel
theorem dX12_isPlace_12 : decode cX12_isPlace 12 = .ok (.iconst 1, 1) := by decide +kernel
theorem dX12_isPlace_13 : decode cX12_isPlace 13 = .ok (.if_icmp .ne 13, 3) := by decide +kernel
theorem dX12_isPlace_16 : decode cX12_isPlace 16 = .ok (.iload_n 2, 1) := by decide +kernel
theorem dX12_isPlace_17 : decode cX12_isPlace 17 = .ok (.bipush 16, 2) := by decide +kernel
theorem dX12_isPlace_19 : decode cX12_isPlace 19 = .ok (.irem, 1) := by decide +kernel
theorem dX12_isPlace_20 : decode cX12_isPlace 20 = .ok (.ifCond .ne 21, 3) := by decide +kernel
theorem dX12_isPlace_23 : decode cX12_isPlace 23 = .ok (.goto 14, 3) := by decide +kernel
theorem dX12_isPlace_26 : decode cX12_isPlace 26 = .ok (.iload_n 2, 1) := by decide +kernel
theorem dX12_isPlace_27 : decode cX12_isPlace 27 = .ok (.bipush 16, 2) := by decide +kernel
theorem dX12_isPlace_29 : decode cX12_isPlace 29 = .ok (.irem, 1) := by decide +kernel
theorem dX12_isPlace_30 : decode cX12_isPlace 30 = .ok (.aload_n 0, 1) := by decide +kernel
theorem dX12_isPlace_31 : decode cX12_isPlace 31 = .ok (.invokevirtual 228, 3) := by decide +kernel
theorem dX12_isPlace_34 : decode cX12_isPlace 34 = .ok (.if_icmp .ge 7, 3) := by decide +kernel
theorem dX12_isPlace_37 : decode cX12_isPlace 37 = .ok (.iconst 1, 1) := by decide +kernel
theorem dX12_isPlace_38 : decode cX12_isPlace 38 = .ok (.goto 4, 3) := by decide +kernel
theorem dX12_isPlace_41 : decode cX12_isPlace 41 = .ok (.iconst 0, 1) := by decide +kernel
theorem dX12_isPlace_42 : decode cX12_isPlace 42 = .ok (.ireturn, 1) := by decide +kernel
theorem dX12_bits_0 : decode cX12_bits 0 = .ok (.iconst 1, 1) := by decide +kernel
theorem dX12_bits_1 : decode cX12_bits 1 = .ok (.iload_n 1, 1) := by decide +kernel
theorem dX12_bits_2 : decode cX12_bits 2 = .ok (.bipush 16, 2) := by decide +kernel
theorem dX12_bits_4 : decode cX12_bits 4 = .ok (.idiv, 1) := by decide +kernel
theorem dX12_bits_5 : decode cX12_bits 5 = .ok (.ishl, 1) := by decide +kernel
theorem dX12_bits_6 : decode cX12_bits 6 = .ok (.iload_n 0, 1) := by decide +kernel
theorem dX12_bits_7 : decode cX12_bits 7 = .ok (.iconst 2, 1) := by decide +kernel
theorem dX12_bits_8 : decode cX12_bits 8 = .ok (.if_icmp .ne 12, 3) := by decide +kernel
theorem dX12_bits_11 : decode cX12_bits 11 = .ok (.iconst 1, 1) := by decide +kernel
theorem dX12_bits_12 : decode cX12_bits 12 = .ok (.iload_n 1, 1) := by decide +kernel
theorem dX12_bits_13 : decode cX12_bits 13 = .ok (.bipush 16, 2) := by decide +kernel
theorem dX12_bits_15 : decode cX12_bits 15 = .ok (.irem, 1) := by decide +kernel
theorem dX12_bits_16 : decode cX12_bits 16 = .ok (.ishl, 1) := by decide +kernel
theorem dX12_bits_17 : decode cX12_bits 17 = .ok (.goto 4, 3) := by decide +kernel
theorem dX12_bits_20 : decode cX12_bits 20 = .ok (.iconst 0, 1) := by decide +kernel
theorem dX12_bits_21 : decode cX12_bits 21 = .ok (.ior, 1) := by decide +kernel
theorem dX12_bits_22 : decode cX12_bits 22 = .ok (.ireturn, 1) := by decide +kernel
theorem dX12_walked_0 : decode cX12_walked 0 = .ok (.aload_n 0, 1) := by decide +kernel
theorem dX12_walked_1 : decode cX12_walked 1 = .ok (.getfield 45, 3) := by decide +kernel
theorem dX12_walked_4 : decode cX12_walked 4 = .ok (.bipush 16, 2) := by decide +kernel
theorem dX12_walked_6 : decode cX12_walked 6 = .ok (.iload_n 2, 1) := by decide +kernel
theorem dX12_walked_7 : decode cX12_walked 7 = .ok (.bipush 16, 2) := by decide +kernel
theorem dX12_walked_9 : decode cX12_walked 9 = .ok (.idiv, 1) := by decide +kernel
theorem dX12_walked_10 : decode cX12_walked 10 = .ok (.imul, 1) := by decide +kernel
theorem dX12_walked_11 : decode cX12_walked 11 = .ok (.iload_n 3, 1) := by decide +kernel
theorem dX12_walked_12 : decode cX12_walked 12 = .ok (.bipush 16, 2) := by decide +kernel
theorem dX12_walked_14 : decode cX12_walked 14 = .ok (.idiv, 1) := by decide +kernel
theorem dX12_walked_15 : decode cX12_walked 15 = .ok (.iadd, 1) := by decide +kernel
theorem dX12_walked_16 : decode cX12_walked 16 = .ok (.iaload, 1) := by decide +kernel
theorem dX12_walked_17 : decode cX12_walked 17 = .ok (.iload_n 1, 1) := by decide +kernel
theorem dX12_walked_18 : decode cX12_walked 18 = .ok (.iconst 2, 1) := by decide +kernel
theorem dX12_walked_19 : decode cX12_walked 19 = .ok (.if_icmp .ne 23, 3) := by decide +kernel
theorem dX12_walked_22 : decode cX12_walked 22 = .ok (.aload_n 0, 1) := by decide +kernel
theorem dX12_walked_23 : decode cX12_walked 23 = .ok (.getfield 45, 3) := by decide +kernel
theorem dX12_walked_26 : decode cX12_walked 26 = .ok (.bipush 16, 2) := by decide +kernel
theorem dX12_walked_28 : decode cX12_walked 28 = .ok (.iload_n 2, 1) := by decide +kernel
theorem dX12_walked_29 : decode cX12_walked 29 = .ok (.bipush 16, 2) := by decide +kernel
theorem dX12_walked_31 : decode cX12_walked 31 = .ok (.irem, 1) := by decide +kernel
theorem dX12_walked_32 : decode cX12_walked 32 = .ok (.imul, 1) := by decide +kernel
theorem dX12_walked_33 : decode cX12_walked 33 = .ok (.iload_n 3, 1) := by decide +kernel
theorem dX12_walked_34 : decode cX12_walked 34 = .ok (.bipush 16, 2) := by decide +kernel
theorem dX12_walked_36 : decode cX12_walked 36 = .ok (.irem, 1) := by decide +kernel
theorem dX12_walked_37 : decode cX12_walked 37 = .ok (.iadd, 1) := by decide +kernel
theorem dX12_walked_38 : decode cX12_walked 38 = .ok (.iaload, 1) := by decide +kernel
theorem dX12_walked_39 : decode cX12_walked 39 = .ok (.goto 4, 3) := by decide +kernel
theorem dX12_walked_42 : decode cX12_walked 42 = .ok (.iconst 0, 1) := by decide +kernel
theorem dX12_walked_43 : decode cX12_walked 43 = .ok (.iadd, 1) := by decide +kernel
theorem dX12_walked_44 : decode cX12_walked 44 = .ok (.ireturn, 1) := by decide +kernel
theorem dX12_layCarried_0 : decode cX12_layCarried 0 = .ok (.aload_n 0, 1) := by decide +kernel
theorem dX12_layCarried_1 : decode cX12_layCarried 1 = .ok (.invokevirtual 347, 3) := by decide +kernel
theorem dX12_layCarried_4 : decode cX12_layCarried 4 = .ok (.aload_n 0, 1) := by decide +kernel
theorem dX12_layCarried_5 : decode cX12_layCarried 5 = .ok (.invokevirtual 291, 3) := by decide +kernel
theorem dX12_layCarried_8 : decode cX12_layCarried 8 = .ok (.iload_n 3, 1) := by decide +kernel
theorem dX12_layCarried_9 : decode cX12_layCarried 9 = .ok (.istore 4, 2) := by decide +kernel
theorem dX12_layCarried_11 : decode cX12_layCarried 11 = .ok (.iload 4, 2) := by decide +kernel
theorem dX12_layCarried_13 : decode cX12_layCarried 13 = .ok (.iload_n 2, 1) := by decide +kernel
theorem dX12_layCarried_14 : decode cX12_layCarried 14 = .ok (.if_icmp .lt 106, 3) := by decide +kernel
theorem dX12_layCarried_17 : decode cX12_layCarried 17 = .ok (.aload_n 0, 1) := by decide +kernel
theorem dX12_layCarried_18 : decode cX12_layCarried 18 = .ok (.iload 4, 2) := by decide +kernel
theorem dX12_layCarried_20 : decode cX12_layCarried 20 = .ok (.invokevirtual 350, 3) := by decide +kernel
theorem dX12_layCarried_23 : decode cX12_layCarried 23 = .ok (.istore 5, 2) := by decide +kernel
theorem dX12_layCarried_25 : decode cX12_layCarried 25 = .ok (.iconst 0, 1) := by decide +kernel
theorem dX12_layCarried_26 : decode cX12_layCarried 26 = .ok (.istore 6, 2) := by decide +kernel
theorem dX12_layCarried_28 : decode cX12_layCarried 28 = .ok (.iload 6, 2) := by decide +kernel
theorem dX12_layCarried_30 : decode cX12_layCarried 30 = .ok (.sipush 256, 3) := by decide +kernel
theorem dX12_layCarried_33 : decode cX12_layCarried 33 = .ok (.if_icmp .ge 81, 3) := by decide +kernel
theorem dX12_layCarried_36 : decode cX12_layCarried 36 = .ok (.aload_n 0, 1) := by decide +kernel
theorem dX12_layCarried_37 : decode cX12_layCarried 37 = .ok (.iload_n 1, 1) := by decide +kernel
theorem dX12_layCarried_38 : decode cX12_layCarried 38 = .ok (.iload 6, 2) := by decide +kernel
theorem dX12_layCarried_40 : decode cX12_layCarried 40 = .ok (.invokevirtual 353, 3) := by decide +kernel
theorem dX12_layCarried_43 : decode cX12_layCarried 43 = .ok (.ifCond .eq 18, 3) := by decide +kernel
theorem dX12_layCarried_46 : decode cX12_layCarried 46 = .ok (.aload_n 0, 1) := by decide +kernel
theorem dX12_layCarried_47 : decode cX12_layCarried 47 = .ok (.iload_n 1, 1) := by decide +kernel
theorem dX12_layCarried_48 : decode cX12_layCarried 48 = .ok (.iload 6, 2) := by decide +kernel
theorem dX12_layCarried_50 : decode cX12_layCarried 50 = .ok (.invokestatic 356, 3) := by decide +kernel
theorem dX12_layCarried_53 : decode cX12_layCarried 53 = .ok (.iload 5, 2) := by decide +kernel
theorem dX12_layCarried_55 : decode cX12_layCarried 55 = .ok (.invokevirtual 294, 3) := by decide +kernel
theorem dX12_layCarried_58 : decode cX12_layCarried 58 = .ok (.ifCond .ne 9, 3) := by decide +kernel
theorem dX12_layCarried_61 : decode cX12_layCarried 61 = .ok (.ldc_w 343, 3) := by decide +kernel
theorem dX12_layCarried_64 : decode cX12_layCarried 64 = .ok (.goto 24, 3) := by decide +kernel
theorem dX12_layCarried_67 : decode cX12_layCarried 67 = .ok (.iload 4, 2) := by decide +kernel
theorem dX12_layCarried_69 : decode cX12_layCarried 69 = .ok (.iload_n 3, 1) := by decide +kernel
theorem dX12_layCarried_70 : decode cX12_layCarried 70 = .ok (.if_icmp .ne 7, 3) := by decide +kernel
theorem dX12_layCarried_73 : decode cX12_layCarried 73 = .ok (.iconst 0, 1) := by decide +kernel
theorem dX12_layCarried_74 : decode cX12_layCarried 74 = .ok (.goto 14, 3) := by decide +kernel
theorem dX12_layCarried_77 : decode cX12_layCarried 77 = .ok (.aload_n 0, 1) := by decide +kernel
theorem dX12_layCarried_78 : decode cX12_layCarried 78 = .ok (.iload_n 1, 1) := by decide +kernel
theorem dX12_layCarried_79 : decode cX12_layCarried 79 = .ok (.iload 6, 2) := by decide +kernel
theorem dX12_layCarried_81 : decode cX12_layCarried 81 = .ok (.iload 4, 2) := by decide +kernel
theorem dX12_layCarried_83 : decode cX12_layCarried 83 = .ok (.iload_n 2, 1) := by decide +kernel
theorem dX12_layCarried_84 : decode cX12_layCarried 84 = .ok (.isub, 1) := by decide +kernel
theorem dX12_layCarried_85 : decode cX12_layCarried 85 = .ok (.invokevirtual 359, 3) := by decide +kernel
theorem dX12_layCarried_88 : decode cX12_layCarried 88 = .ok (.istore 7, 2) := by decide +kernel
theorem dX12_layCarried_90 : decode cX12_layCarried 90 = .ok (.aload_n 0, 1) := by decide +kernel
theorem dX12_layCarried_91 : decode cX12_layCarried 91 = .ok (.getfield 48, 3) := by decide +kernel
theorem dX12_layCarried_94 : decode cX12_layCarried 94 = .ok (.sipush 256, 3) := by decide +kernel
theorem dX12_layCarried_97 : decode cX12_layCarried 97 = .ok (.iload 4, 2) := by decide +kernel
theorem dX12_layCarried_99 : decode cX12_layCarried 99 = .ok (.iload_n 2, 1) := by decide +kernel
theorem dX12_layCarried_100 : decode cX12_layCarried 100 = .ok (.isub, 1) := by decide +kernel
theorem dX12_layCarried_101 : decode cX12_layCarried 101 = .ok (.imul, 1) := by decide +kernel
theorem dX12_layCarried_102 : decode cX12_layCarried 102 = .ok (.iload 6, 2) := by decide +kernel
theorem dX12_layCarried_104 : decode cX12_layCarried 104 = .ok (.iadd, 1) := by decide +kernel
theorem dX12_layCarried_105 : decode cX12_layCarried 105 = .ok (.iload 7, 2) := by decide +kernel
theorem dX12_layCarried_107 : decode cX12_layCarried 107 = .ok (.iastore, 1) := by decide +kernel
theorem dX12_layCarried_108 : decode cX12_layCarried 108 = .ok (.iinc 6 1, 3) := by decide +kernel
theorem dX12_layCarried_111 : decode cX12_layCarried 111 = .ok (.goto (-83), 3) := by decide +kernel
theorem dX12_layCarried_114 : decode cX12_layCarried 114 = .ok (.iinc 4 (-1), 3) := by decide +kernel
theorem dX12_layCarried_117 : decode cX12_layCarried 117 = .ok (.goto (-106), 3) := by decide +kernel
theorem dX12_layCarried_120 : decode cX12_layCarried 120 = .ok (.return_, 1) := by decide +kernel
theorem dX12_onward_0 : decode cX12_onward 0 = .ok (.ldc_w 343, 3) := by decide +kernel
theorem dX12_onward_3 : decode cX12_onward 3 = .ok (.istore 4, 2) := by decide +kernel
theorem dX12_onward_5 : decode cX12_onward 5 = .ok (.iconst 0, 1) := by decide +kernel
theorem dX12_onward_6 : decode cX12_onward 6 = .ok (.istore 5, 2) := by decide +kernel
theorem dX12_onward_8 : decode cX12_onward 8 = .ok (.iload 5, 2) := by decide +kernel
theorem dX12_onward_10 : decode cX12_onward 10 = .ok (.sipush 256, 3) := by decide +kernel
theorem dX12_onward_13 : decode cX12_onward 13 = .ok (.if_icmp .ge 50, 3) := by decide +kernel
theorem dX12_onward_16 : decode cX12_onward 16 = .ok (.aload_n 0, 1) := by decide +kernel
theorem dX12_onward_17 : decode cX12_onward 17 = .ok (.iload_n 1, 1) := by decide +kernel
theorem dX12_onward_18 : decode cX12_onward 18 = .ok (.iload 5, 2) := by decide +kernel
theorem dX12_onward_20 : decode cX12_onward 20 = .ok (.invokevirtual 353, 3) := by decide +kernel
theorem dX12_onward_23 : decode cX12_onward 23 = .ok (.ifCond .eq 34, 3) := by decide +kernel
theorem dX12_onward_26 : decode cX12_onward 26 = .ok (.iload 4, 2) := by decide +kernel
theorem dX12_onward_28 : decode cX12_onward 28 = .ok (.aload_n 0, 1) := by decide +kernel
theorem dX12_onward_29 : decode cX12_onward 29 = .ok (.iload_n 1, 1) := by decide +kernel
theorem dX12_onward_30 : decode cX12_onward 30 = .ok (.iload_n 2, 1) := by decide +kernel
theorem dX12_onward_31 : decode cX12_onward 31 = .ok (.iload 5, 2) := by decide +kernel
theorem dX12_onward_33 : decode cX12_onward 33 = .ok (.invokevirtual 362, 3) := by decide +kernel
theorem dX12_onward_36 : decode cX12_onward 36 = .ok (.aload_n 0, 1) := by decide +kernel
theorem dX12_onward_37 : decode cX12_onward 37 = .ok (.getfield 48, 3) := by decide +kernel
theorem dX12_onward_40 : decode cX12_onward 40 = .ok (.sipush 256, 3) := by decide +kernel
theorem dX12_onward_43 : decode cX12_onward 43 = .ok (.iload_n 3, 1) := by decide +kernel
theorem dX12_onward_44 : decode cX12_onward 44 = .ok (.iconst 1, 1) := by decide +kernel
theorem dX12_onward_45 : decode cX12_onward 45 = .ok (.iadd, 1) := by decide +kernel
theorem dX12_onward_46 : decode cX12_onward 46 = .ok (.imul, 1) := by decide +kernel
theorem dX12_onward_47 : decode cX12_onward 47 = .ok (.iload 5, 2) := by decide +kernel
theorem dX12_onward_49 : decode cX12_onward 49 = .ok (.iadd, 1) := by decide +kernel
theorem dX12_onward_50 : decode cX12_onward 50 = .ok (.iaload, 1) := by decide +kernel
theorem dX12_onward_51 : decode cX12_onward 51 = .ok (.iadd, 1) := by decide +kernel
theorem dX12_onward_52 : decode cX12_onward 52 = .ok (.invokestatic 344, 3) := by decide +kernel
theorem dX12_onward_55 : decode cX12_onward 55 = .ok (.istore 4, 2) := by decide +kernel
theorem dX12_onward_57 : decode cX12_onward 57 = .ok (.iinc 5 1, 3) := by decide +kernel
theorem dX12_onward_60 : decode cX12_onward 60 = .ok (.goto (-52), 3) := by decide +kernel
theorem dX12_onward_63 : decode cX12_onward 63 = .ok (.iload 4, 2) := by decide +kernel
theorem dX12_onward_65 : decode cX12_onward 65 = .ok (.ireturn, 1) := by decide +kernel
theorem dX12_carry_0 : decode cX12_carry 0 = .ok (.aload_n 0, 1) := by decide +kernel
theorem dX12_carry_1 : decode cX12_carry 1 = .ok (.iload_n 1, 1) := by decide +kernel
theorem dX12_carry_2 : decode cX12_carry 2 = .ok (.i2l, 1) := by decide +kernel
theorem dX12_carry_3 : decode cX12_carry 3 = .ok (.lconst 1, 1) := by decide +kernel
theorem dX12_carry_4 : decode cX12_carry 4 = .ok (.ldc2_w 268, 3) := by decide +kernel
theorem dX12_carry_7 : decode cX12_carry 7 = .ok (.invokestatic 134, 3) := by decide +kernel
theorem dX12_carry_10 : decode cX12_carry 10 = .ok (.ifCond .eq 49, 3) := by decide +kernel
theorem dX12_carry_13 : decode cX12_carry 13 = .ok (.iload_n 2, 1) := by decide +kernel
theorem dX12_carry_14 : decode cX12_carry 14 = .ok (.invokestatic 270, 3) := by decide +kernel
theorem dX12_carry_17 : decode cX12_carry 17 = .ok (.ifCond .eq 42, 3) := by decide +kernel
theorem dX12_carry_20 : decode cX12_carry 20 = .ok (.iload_n 3, 1) := by decide +kernel
theorem dX12_carry_21 : decode cX12_carry 21 = .ok (.i2l, 1) := by decide +kernel
theorem dX12_carry_22 : decode cX12_carry 22 = .ok (.iload_n 2, 1) := by decide +kernel
theorem dX12_carry_23 : decode cX12_carry 23 = .ok (.i2l, 1) := by decide +kernel
theorem dX12_carry_24 : decode cX12_carry 24 = .ok (.ldc2_w 233, 3) := by decide +kernel
theorem dX12_carry_27 : decode cX12_carry 27 = .ok (.invokestatic 134, 3) := by decide +kernel
theorem dX12_carry_30 : decode cX12_carry 30 = .ok (.ifCond .eq 29, 3) := by decide +kernel
theorem dX12_carry_33 : decode cX12_carry 33 = .ok (.iload 4, 2) := by decide +kernel
theorem dX12_carry_35 : decode cX12_carry 35 = .ok (.i2l, 1) := by decide +kernel
theorem dX12_carry_36 : decode cX12_carry 36 = .ok (.ldc2_w 365, 3) := by decide +kernel
theorem dX12_carry_39 : decode cX12_carry 39 = .ok (.iload_n 3, 1) := by decide +kernel
theorem dX12_carry_40 : decode cX12_carry 40 = .ok (.iload_n 2, 1) := by decide +kernel
theorem dX12_carry_41 : decode cX12_carry 41 = .ok (.isub, 1) := by decide +kernel
theorem dX12_carry_42 : decode cX12_carry 42 = .ok (.iconst 1, 1) := by decide +kernel
theorem dX12_carry_43 : decode cX12_carry 43 = .ok (.iadd, 1) := by decide +kernel
theorem dX12_carry_44 : decode cX12_carry 44 = .ok (.iload_n 1, 1) := by decide +kernel
theorem dX12_carry_45 : decode cX12_carry 45 = .ok (.imul, 1) := by decide +kernel
theorem dX12_carry_46 : decode cX12_carry 46 = .ok (.iconst 1, 1) := by decide +kernel
theorem dX12_carry_47 : decode cX12_carry 47 = .ok (.isub, 1) := by decide +kernel
theorem dX12_carry_48 : decode cX12_carry 48 = .ok (.i2l, 1) := by decide +kernel
theorem dX12_carry_49 : decode cX12_carry 49 = .ok (.invokestatic 134, 3) := by decide +kernel
theorem dX12_carry_52 : decode cX12_carry 52 = .ok (.ifCond .eq 7, 3) := by decide +kernel
theorem dX12_carry_55 : decode cX12_carry 55 = .ok (.iconst 0, 1) := by decide +kernel
theorem dX12_carry_56 : decode cX12_carry 56 = .ok (.goto 4, 3) := by decide +kernel
theorem dX12_carry_59 : decode cX12_carry 59 = .ok (.iconst 1, 1) := by decide +kernel
theorem dX12_carry_60 : decode cX12_carry 60 = .ok (.putfield 75, 3) := by decide +kernel
theorem dX12_carry_63 : decode cX12_carry 63 = .ok (.aload_n 0, 1) := by decide +kernel
theorem dX12_carry_64 : decode cX12_carry 64 = .ok (.getfield 75, 3) := by decide +kernel
theorem dX12_carry_67 : decode cX12_carry 67 = .ok (.ifCond .le 5, 3) := by decide +kernel
theorem dX12_carry_70 : decode cX12_carry 70 = .ok (.iconst 0, 1) := by decide +kernel
theorem dX12_carry_71 : decode cX12_carry 71 = .ok (.ireturn, 1) := by decide +kernel
theorem dX12_carry_72 : decode cX12_carry 72 = .ok (.aload_n 0, 1) := by decide +kernel
theorem dX12_carry_73 : decode cX12_carry 73 = .ok (.iload_n 1, 1) := by decide +kernel
theorem dX12_carry_74 : decode cX12_carry 74 = .ok (.iload_n 2, 1) := by decide +kernel
theorem dX12_carry_75 : decode cX12_carry 75 = .ok (.iload_n 3, 1) := by decide +kernel
theorem dX12_carry_76 : decode cX12_carry 76 = .ok (.invokevirtual 367, 3) := by decide +kernel
theorem dX12_carry_79 : decode cX12_carry 79 = .ok (.iconst 0, 1) := by decide +kernel
theorem dX12_carry_80 : decode cX12_carry 80 = .ok (.istore 5, 2) := by decide +kernel
theorem dX12_carry_82 : decode cX12_carry 82 = .ok (.iconst 1, 1) := by decide +kernel
theorem dX12_carry_83 : decode cX12_carry 83 = .ok (.istore 6, 2) := by decide +kernel
theorem dX12_carry_85 : decode cX12_carry 85 = .ok (.iload 6, 2) := by decide +kernel
theorem dX12_carry_87 : decode cX12_carry 87 = .ok (.sipush 256, 3) := by decide +kernel
theorem dX12_carry_90 : decode cX12_carry 90 = .ok (.if_icmp .ge 35, 3) := by decide +kernel
theorem dX12_carry_93 : decode cX12_carry 93 = .ok (.aload_n 0, 1) := by decide +kernel
theorem dX12_carry_94 : decode cX12_carry 94 = .ok (.getfield 48, 3) := by decide +kernel
theorem dX12_carry_97 : decode cX12_carry 97 = .ok (.iload 6, 2) := by decide +kernel
theorem dX12_carry_99 : decode cX12_carry 99 = .ok (.iaload, 1) := by decide +kernel
theorem dX12_carry_100 : decode cX12_carry 100 = .ok (.aload_n 0, 1) := by decide +kernel
theorem dX12_carry_101 : decode cX12_carry 101 = .ok (.getfield 48, 3) := by decide +kernel
theorem dX12_carry_104 : decode cX12_carry 104 = .ok (.iload 5, 2) := by decide +kernel
theorem dX12_carry_106 : decode cX12_carry 106 = .ok (.iaload, 1) := by decide +kernel
theorem dX12_carry_107 : decode cX12_carry 107 = .ok (.if_icmp .ge 8, 3) := by decide +kernel
theorem dX12_carry_110 : decode cX12_carry 110 = .ok (.iload 6, 2) := by decide +kernel
theorem dX12_carry_112 : decode cX12_carry 112 = .ok (.goto 5, 3) := by decide +kernel
theorem dX12_carry_115 : decode cX12_carry 115 = .ok (.iload 5, 2) := by decide +kernel
theorem dX12_carry_117 : decode cX12_carry 117 = .ok (.istore 5, 2) := by decide +kernel
theorem dX12_carry_119 : decode cX12_carry 119 = .ok (.iinc 6 1, 3) := by decide +kernel
theorem dX12_carry_122 : decode cX12_carry 122 = .ok (.goto (-37), 3) := by decide +kernel
theorem dX12_carry_125 : decode cX12_carry 125 = .ok (.aload_n 0, 1) := by decide +kernel
theorem dX12_carry_126 : decode cX12_carry 126 = .ok (.invokevirtual 228, 3) := by decide +kernel
theorem dX12_carry_129 : decode cX12_carry 129 = .ok (.ifCond .eq 16, 3) := by decide +kernel
theorem dX12_carry_132 : decode cX12_carry 132 = .ok (.aload_n 0, 1) := by decide +kernel
theorem dX12_carry_133 : decode cX12_carry 133 = .ok (.getfield 48, 3) := by decide +kernel
theorem dX12_carry_136 : decode cX12_carry 136 = .ok (.iload 5, 2) := by decide +kernel
theorem dX12_carry_138 : decode cX12_carry 138 = .ok (.iaload, 1) := by decide +kernel
theorem dX12_carry_139 : decode cX12_carry 139 = .ok (.ldc_w 343, 3) := by decide +kernel
theorem dX12_carry_142 : decode cX12_carry 142 = .ok (.if_icmp .lt 5, 3) := by decide +kernel
theorem dX12_carry_145 : decode cX12_carry 145 = .ok (.iconst (-1), 1) := by decide +kernel
theorem dX12_carry_146 : decode cX12_carry 146 = .ok (.ireturn, 1) := by decide +kernel
theorem dX12_carry_147 : decode cX12_carry 147 = .ok (.iload 4, 2) := by decide +kernel
theorem dX12_carry_149 : decode cX12_carry 149 = .ok (.iconst (-1), 1) := by decide +kernel
theorem dX12_carry_150 : decode cX12_carry 150 = .ok (.if_icmp .ne 11, 3) := by decide +kernel
theorem dX12_carry_153 : decode cX12_carry 153 = .ok (.aload_n 0, 1) := by decide +kernel
theorem dX12_carry_154 : decode cX12_carry 154 = .ok (.getfield 48, 3) := by decide +kernel
theorem dX12_carry_157 : decode cX12_carry 157 = .ok (.iload 5, 2) := by decide +kernel
theorem dX12_carry_159 : decode cX12_carry 159 = .ok (.iaload, 1) := by decide +kernel
theorem dX12_carry_160 : decode cX12_carry 160 = .ok (.ireturn, 1) := by decide +kernel
theorem dX12_carry_161 : decode cX12_carry 161 = .ok (.iload 5, 2) := by decide +kernel
theorem dX12_carry_163 : decode cX12_carry 163 = .ok (.istore 6, 2) := by decide +kernel
theorem dX12_carry_165 : decode cX12_carry 165 = .ok (.iconst 0, 1) := by decide +kernel
theorem dX12_carry_166 : decode cX12_carry 166 = .ok (.istore 7, 2) := by decide +kernel
theorem dX12_carry_168 : decode cX12_carry 168 = .ok (.iload 7, 2) := by decide +kernel
theorem dX12_carry_170 : decode cX12_carry 170 = .ok (.iload 4, 2) := by decide +kernel
theorem dX12_carry_172 : decode cX12_carry 172 = .ok (.iload_n 1, 1) := by decide +kernel
theorem dX12_carry_173 : decode cX12_carry 173 = .ok (.idiv, 1) := by decide +kernel
theorem dX12_carry_174 : decode cX12_carry 174 = .ok (.if_icmp .ge 79, 3) := by decide +kernel
theorem dX12_carry_177 : decode cX12_carry 177 = .ok (.aload_n 0, 1) := by decide +kernel
theorem dX12_carry_178 : decode cX12_carry 178 = .ok (.getfield 48, 3) := by decide +kernel
theorem dX12_carry_181 : decode cX12_carry 181 = .ok (.sipush 256, 3) := by decide +kernel
theorem dX12_carry_184 : decode cX12_carry 184 = .ok (.iload 7, 2) := by decide +kernel
theorem dX12_carry_186 : decode cX12_carry 186 = .ok (.imul, 1) := by decide +kernel
theorem dX12_carry_187 : decode cX12_carry 187 = .ok (.iload 6, 2) := by decide +kernel
theorem dX12_carry_189 : decode cX12_carry 189 = .ok (.iadd, 1) := by decide +kernel
theorem dX12_carry_190 : decode cX12_carry 190 = .ok (.iaload, 1) := by decide +kernel
theorem dX12_carry_191 : decode cX12_carry 191 = .ok (.istore 8, 2) := by decide +kernel
theorem dX12_carry_193 : decode cX12_carry 193 = .ok (.iconst 0, 1) := by decide +kernel
theorem dX12_carry_194 : decode cX12_carry 194 = .ok (.istore 9, 2) := by decide +kernel
theorem dX12_carry_196 : decode cX12_carry 196 = .ok (.aload_n 0, 1) := by decide +kernel
theorem dX12_carry_197 : decode cX12_carry 197 = .ok (.iload_n 1, 1) := by decide +kernel
theorem dX12_carry_198 : decode cX12_carry 198 = .ok (.iload 9, 2) := by decide +kernel
theorem dX12_carry_200 : decode cX12_carry 200 = .ok (.invokevirtual 353, 3) := by decide +kernel
theorem dX12_carry_203 : decode cX12_carry 203 = .ok (.ifCond .eq 34, 3) := by decide +kernel
theorem dX12_carry_206 : decode cX12_carry 206 = .ok (.aload_n 0, 1) := by decide +kernel
theorem dX12_carry_207 : decode cX12_carry 207 = .ok (.iload_n 1, 1) := by decide +kernel
theorem dX12_carry_208 : decode cX12_carry 208 = .ok (.iload 6, 2) := by decide +kernel
theorem dX12_carry_210 : decode cX12_carry 210 = .ok (.iload 9, 2) := by decide +kernel
theorem dX12_carry_212 : decode cX12_carry 212 = .ok (.invokevirtual 362, 3) := by decide +kernel
theorem dX12_carry_215 : decode cX12_carry 215 = .ok (.aload_n 0, 1) := by decide +kernel
theorem dX12_carry_216 : decode cX12_carry 216 = .ok (.getfield 48, 3) := by decide +kernel
theorem dX12_carry_219 : decode cX12_carry 219 = .ok (.sipush 256, 3) := by decide +kernel
theorem dX12_carry_222 : decode cX12_carry 222 = .ok (.iload 7, 2) := by decide +kernel
theorem dX12_carry_224 : decode cX12_carry 224 = .ok (.iconst 1, 1) := by decide +kernel
theorem dX12_carry_225 : decode cX12_carry 225 = .ok (.iadd, 1) := by decide +kernel
theorem dX12_carry_226 : decode cX12_carry 226 = .ok (.imul, 1) := by decide +kernel
theorem dX12_carry_227 : decode cX12_carry 227 = .ok (.iload 9, 2) := by decide +kernel
theorem dX12_carry_229 : decode cX12_carry 229 = .ok (.iadd, 1) := by decide +kernel
theorem dX12_carry_230 : decode cX12_carry 230 = .ok (.iaload, 1) := by decide +kernel
theorem dX12_carry_231 : decode cX12_carry 231 = .ok (.iadd, 1) := by decide +kernel
theorem dX12_carry_232 : decode cX12_carry 232 = .ok (.iload 8, 2) := by decide +kernel
theorem dX12_carry_234 : decode cX12_carry 234 = .ok (.if_icmp .eq 9, 3) := by decide +kernel
theorem dX12_carry_237 : decode cX12_carry 237 = .ok (.iinc 9 1, 3) := by decide +kernel
theorem dX12_carry_240 : decode cX12_carry 240 = .ok (.goto (-44), 3) := by decide +kernel
theorem dX12_carry_243 : decode cX12_carry 243 = .ok (.iload 9, 2) := by decide +kernel
theorem dX12_carry_245 : decode cX12_carry 245 = .ok (.istore 6, 2) := by decide +kernel
theorem dX12_carry_247 : decode cX12_carry 247 = .ok (.iinc 7 1, 3) := by decide +kernel
theorem dX12_carry_250 : decode cX12_carry 250 = .ok (.goto (-82), 3) := by decide +kernel
theorem dX12_carry_253 : decode cX12_carry 253 = .ok (.iload 4, 2) := by decide +kernel
theorem dX12_carry_255 : decode cX12_carry 255 = .ok (.iload_n 1, 1) := by decide +kernel
theorem dX12_carry_256 : decode cX12_carry 256 = .ok (.irem, 1) := by decide +kernel
theorem dX12_carry_257 : decode cX12_carry 257 = .ok (.ifCond .ne 11, 3) := by decide +kernel
theorem dX12_carry_260 : decode cX12_carry 260 = .ok (.iload 6, 2) := by decide +kernel
theorem dX12_carry_262 : decode cX12_carry 262 = .ok (.bipush 16, 2) := by decide +kernel
theorem dX12_carry_264 : decode cX12_carry 264 = .ok (.idiv, 1) := by decide +kernel
theorem dX12_carry_265 : decode cX12_carry 265 = .ok (.goto 8, 3) := by decide +kernel
theorem dX12_carry_268 : decode cX12_carry 268 = .ok (.iload 6, 2) := by decide +kernel
theorem dX12_carry_270 : decode cX12_carry 270 = .ok (.bipush 16, 2) := by decide +kernel
theorem dX12_carry_272 : decode cX12_carry 272 = .ok (.irem, 1) := by decide +kernel
theorem dX12_carry_273 : decode cX12_carry 273 = .ok (.ireturn, 1) := by decide +kernel
theorem dX12_costOf_0 : decode cX12_costOf 0 = .ok (.aload_n 0, 1) := by decide +kernel
theorem dX12_costOf_1 : decode cX12_costOf 1 = .ok (.getfield 9, 3) := by decide +kernel
theorem dX12_costOf_4 : decode cX12_costOf 4 = .ok (.bipush 6, 2) := by decide +kernel
theorem dX12_costOf_6 : decode cX12_costOf 6 = .ok (.iaload, 1) := by decide +kernel
theorem dX12_costOf_7 : decode cX12_costOf 7 = .ok (.iload_n 1, 1) := by decide +kernel
theorem dX12_costOf_8 : decode cX12_costOf 8 = .ok (.invokestatic 285, 3) := by decide +kernel
theorem dX12_costOf_11 : decode cX12_costOf 11 = .ok (.imul, 1) := by decide +kernel
theorem dX12_costOf_12 : decode cX12_costOf 12 = .ok (.istore_n 2, 1) := by decide +kernel
theorem dX12_costOf_13 : decode cX12_costOf 13 = .ok (.iload_n 1, 1) := by decide +kernel
theorem dX12_costOf_14 : decode cX12_costOf 14 = .ok (.istore_n 3, 1) := by decide +kernel
theorem dX12_costOf_15 : decode cX12_costOf 15 = .ok (.iload_n 3, 1) := by decide +kernel
theorem dX12_costOf_16 : decode cX12_costOf 16 = .ok (.ifCond .le 98, 3) := by decide +kernel
theorem dX12_costOf_19 : decode cX12_costOf 19 = .ok (.iconst 0, 1) := by decide +kernel
theorem dX12_costOf_20 : decode cX12_costOf 20 = .ok (.istore 4, 2) := by decide +kernel
theorem dX12_costOf_22 : decode cX12_costOf 22 = .ok (.iconst 0, 1) := by decide +kernel
theorem dX12_costOf_23 : decode cX12_costOf 23 = .ok (.istore 5, 2) := by decide +kernel
theorem dX12_costOf_25 : decode cX12_costOf 25 = .ok (.iload 5, 2) := by decide +kernel
theorem dX12_costOf_27 : decode cX12_costOf 27 = .ok (.aload_n 0, 1) := by decide +kernel
theorem dX12_costOf_28 : decode cX12_costOf 28 = .ok (.invokevirtual 228, 3) := by decide +kernel
theorem dX12_costOf_31 : decode cX12_costOf 31 = .ok (.if_icmp .ge 67, 3) := by decide +kernel
theorem dX12_costOf_34 : decode cX12_costOf 34 = .ok (.iload_n 3, 1) := by decide +kernel
theorem dX12_costOf_35 : decode cX12_costOf 35 = .ok (.iload 5, 2) := by decide +kernel
theorem dX12_costOf_37 : decode cX12_costOf 37 = .ok (.invokestatic 246, 3) := by decide +kernel
theorem dX12_costOf_40 : decode cX12_costOf 40 = .ok (.ifCond .eq 19, 3) := by decide +kernel
theorem dX12_costOf_43 : decode cX12_costOf 43 = .ok (.iload 4, 2) := by decide +kernel
theorem dX12_costOf_45 : decode cX12_costOf 45 = .ok (.aload_n 0, 1) := by decide +kernel
theorem dX12_costOf_46 : decode cX12_costOf 46 = .ok (.getfield 9, 3) := by decide +kernel
theorem dX12_costOf_49 : decode cX12_costOf 49 = .ok (.sipush 416, 3) := by decide +kernel
theorem dX12_costOf_52 : decode cX12_costOf 52 = .ok (.iload 5, 2) := by decide +kernel
theorem dX12_costOf_54 : decode cX12_costOf 54 = .ok (.iadd, 1) := by decide +kernel
theorem dX12_costOf_55 : decode cX12_costOf 55 = .ok (.iaload, 1) := by decide +kernel
theorem dX12_costOf_56 : decode cX12_costOf 56 = .ok (.iadd, 1) := by decide +kernel
theorem dX12_costOf_57 : decode cX12_costOf 57 = .ok (.istore 4, 2) := by decide +kernel
theorem dX12_costOf_59 : decode cX12_costOf 59 = .ok (.iload_n 1, 1) := by decide +kernel
theorem dX12_costOf_60 : decode cX12_costOf 60 = .ok (.iload 5, 2) := by decide +kernel
theorem dX12_costOf_62 : decode cX12_costOf 62 = .ok (.invokestatic 246, 3) := by decide +kernel
theorem dX12_costOf_65 : decode cX12_costOf 65 = .ok (.ifCond .eq 27, 3) := by decide +kernel
theorem dX12_costOf_68 : decode cX12_costOf 68 = .ok (.aload_n 0, 1) := by decide +kernel
theorem dX12_costOf_69 : decode cX12_costOf 69 = .ok (.getfield 30, 3) := by decide +kernel
theorem dX12_costOf_72 : decode cX12_costOf 72 = .ok (.iload 5, 2) := by decide +kernel
theorem dX12_costOf_74 : decode cX12_costOf 74 = .ok (.iaload, 1) := by decide +kernel
theorem dX12_costOf_75 : decode cX12_costOf 75 = .ok (.iload_n 3, 1) := by decide +kernel
theorem dX12_costOf_76 : decode cX12_costOf 76 = .ok (.iand, 1) := by decide +kernel
theorem dX12_costOf_77 : decode cX12_costOf 77 = .ok (.ifCond .ne 15, 3) := by decide +kernel
theorem dX12_costOf_80 : decode cX12_costOf 80 = .ok (.iload 4, 2) := by decide +kernel
theorem dX12_costOf_82 : decode cX12_costOf 82 = .ok (.aload_n 0, 1) := by decide +kernel
theorem dX12_costOf_83 : decode cX12_costOf 83 = .ok (.getfield 9, 3) := by decide +kernel
theorem dX12_costOf_86 : decode cX12_costOf 86 = .ok (.bipush 6, 2) := by decide +kernel
theorem dX12_costOf_88 : decode cX12_costOf 88 = .ok (.iaload, 1) := by decide +kernel
theorem dX12_costOf_89 : decode cX12_costOf 89 = .ok (.iadd, 1) := by decide +kernel
theorem dX12_costOf_90 : decode cX12_costOf 90 = .ok (.istore 4, 2) := by decide +kernel
theorem dX12_costOf_92 : decode cX12_costOf 92 = .ok (.iinc 5 1, 3) := by decide +kernel
theorem dX12_costOf_95 : decode cX12_costOf 95 = .ok (.goto (-70), 3) := by decide +kernel
theorem dX12_costOf_98 : decode cX12_costOf 98 = .ok (.iload_n 2, 1) := by decide +kernel
theorem dX12_costOf_99 : decode cX12_costOf 99 = .ok (.iload 4, 2) := by decide +kernel
theorem dX12_costOf_101 : decode cX12_costOf 101 = .ok (.invokestatic 344, 3) := by decide +kernel
theorem dX12_costOf_104 : decode cX12_costOf 104 = .ok (.istore_n 2, 1) := by decide +kernel
theorem dX12_costOf_105 : decode cX12_costOf 105 = .ok (.iload_n 3, 1) := by decide +kernel
theorem dX12_costOf_106 : decode cX12_costOf 106 = .ok (.iconst 1, 1) := by decide +kernel
theorem dX12_costOf_107 : decode cX12_costOf 107 = .ok (.isub, 1) := by decide +kernel
theorem dX12_costOf_108 : decode cX12_costOf 108 = .ok (.iload_n 1, 1) := by decide +kernel
theorem dX12_costOf_109 : decode cX12_costOf 109 = .ok (.iand, 1) := by decide +kernel
theorem dX12_costOf_110 : decode cX12_costOf 110 = .ok (.istore_n 3, 1) := by decide +kernel
theorem dX12_costOf_111 : decode cX12_costOf 111 = .ok (.goto (-96), 3) := by decide +kernel
theorem dX12_costOf_114 : decode cX12_costOf 114 = .ok (.iload_n 2, 1) := by decide +kernel
theorem dX12_costOf_115 : decode cX12_costOf 115 = .ok (.ireturn, 1) := by decide +kernel
theorem dX12_cost_0 : decode cX12_cost 0 = .ok (.aload_n 0, 1) := by decide +kernel
theorem dX12_cost_1 : decode cX12_cost 1 = .ok (.aload_n 0, 1) := by decide +kernel
theorem dX12_cost_2 : decode cX12_cost 2 = .ok (.iload_n 1, 1) := by decide +kernel
theorem dX12_cost_3 : decode cX12_cost 3 = .ok (.invokevirtual 288, 3) := by decide +kernel
theorem dX12_cost_6 : decode cX12_cost 6 = .ok (.ifCond .eq 7, 3) := by decide +kernel
theorem dX12_cost_9 : decode cX12_cost 9 = .ok (.iconst 0, 1) := by decide +kernel
theorem dX12_cost_10 : decode cX12_cost 10 = .ok (.goto 4, 3) := by decide +kernel
theorem dX12_cost_13 : decode cX12_cost 13 = .ok (.iconst 1, 1) := by decide +kernel
theorem dX12_cost_14 : decode cX12_cost 14 = .ok (.putfield 75, 3) := by decide +kernel
theorem dX12_cost_17 : decode cX12_cost 17 = .ok (.aload_n 0, 1) := by decide +kernel
theorem dX12_cost_18 : decode cX12_cost 18 = .ok (.getfield 75, 3) := by decide +kernel
theorem dX12_cost_21 : decode cX12_cost 21 = .ok (.ifCond .le 5, 3) := by decide +kernel
theorem dX12_cost_24 : decode cX12_cost 24 = .ok (.iconst 0, 1) := by decide +kernel
theorem dX12_cost_25 : decode cX12_cost 25 = .ok (.ireturn, 1) := by decide +kernel
theorem dX12_cost_26 : decode cX12_cost 26 = .ok (.aload_n 0, 1) := by decide +kernel
theorem dX12_cost_27 : decode cX12_cost 27 = .ok (.invokevirtual 291, 3) := by decide +kernel
theorem dX12_cost_30 : decode cX12_cost 30 = .ok (.aload_n 0, 1) := by decide +kernel
theorem dX12_cost_31 : decode cX12_cost 31 = .ok (.iload_n 1, 1) := by decide +kernel
theorem dX12_cost_32 : decode cX12_cost 32 = .ok (.invokevirtual 370, 3) := by decide +kernel
theorem dX12_cost_35 : decode cX12_cost 35 = .ok (.ireturn, 1) := by decide +kernel
theorem dX12_laySavings_0 : decode cX12_laySavings 0 = .ok (.aload_n 0, 1) := by decide +kernel
theorem dX12_laySavings_1 : decode cX12_laySavings 1 = .ok (.invokevirtual 291, 3) := by decide +kernel
theorem dX12_laySavings_4 : decode cX12_laySavings 4 = .ok (.iconst 0, 1) := by decide +kernel
theorem dX12_laySavings_5 : decode cX12_laySavings 5 = .ok (.istore_n 1, 1) := by decide +kernel
theorem dX12_laySavings_6 : decode cX12_laySavings 6 = .ok (.iload_n 1, 1) := by decide +kernel
theorem dX12_laySavings_7 : decode cX12_laySavings 7 = .ok (.aload_n 0, 1) := by decide +kernel
theorem dX12_laySavings_8 : decode cX12_laySavings 8 = .ok (.invokevirtual 230, 3) := by decide +kernel
theorem dX12_laySavings_11 : decode cX12_laySavings 11 = .ok (.if_icmp .gt 33, 3) := by decide +kernel
theorem dX12_laySavings_14 : decode cX12_laySavings 14 = .ok (.aload_n 0, 1) := by decide +kernel
theorem dX12_laySavings_15 : decode cX12_laySavings 15 = .ok (.getfield 51, 3) := by decide +kernel
theorem dX12_laySavings_18 : decode cX12_laySavings 18 = .ok (.iload_n 1, 1) := by decide +kernel
theorem dX12_laySavings_19 : decode cX12_laySavings 19 = .ok (.aload_n 0, 1) := by decide +kernel
theorem dX12_laySavings_20 : decode cX12_laySavings 20 = .ok (.getfield 9, 3) := by decide +kernel
theorem dX12_laySavings_23 : decode cX12_laySavings 23 = .ok (.bipush 6, 2) := by decide +kernel
theorem dX12_laySavings_25 : decode cX12_laySavings 25 = .ok (.iaload, 1) := by decide +kernel
theorem dX12_laySavings_26 : decode cX12_laySavings 26 = .ok (.iload_n 1, 1) := by decide +kernel
theorem dX12_laySavings_27 : decode cX12_laySavings 27 = .ok (.invokestatic 285, 3) := by decide +kernel
theorem dX12_laySavings_30 : decode cX12_laySavings 30 = .ok (.imul, 1) := by decide +kernel
theorem dX12_laySavings_31 : decode cX12_laySavings 31 = .ok (.aload_n 0, 1) := by decide +kernel
theorem dX12_laySavings_32 : decode cX12_laySavings 32 = .ok (.iload_n 1, 1) := by decide +kernel
theorem dX12_laySavings_33 : decode cX12_laySavings 33 = .ok (.invokevirtual 370, 3) := by decide +kernel
theorem dX12_laySavings_36 : decode cX12_laySavings 36 = .ok (.isub, 1) := by decide +kernel
theorem dX12_laySavings_37 : decode cX12_laySavings 37 = .ok (.iastore, 1) := by decide +kernel
theorem dX12_laySavings_38 : decode cX12_laySavings 38 = .ok (.iinc 1 1, 3) := by decide +kernel
theorem dX12_laySavings_41 : decode cX12_laySavings 41 = .ok (.goto (-35), 3) := by decide +kernel
theorem dX12_laySavings_44 : decode cX12_laySavings 44 = .ok (.return_, 1) := by decide +kernel
theorem dX12_orders_0 : decode cX12_orders 0 = .ok (.lconst 1, 1) := by decide +kernel
theorem dX12_orders_1 : decode cX12_orders 1 = .ok (.lstore_n 1, 1) := by decide +kernel
theorem dX12_orders_2 : decode cX12_orders 2 = .ok (.iconst 2, 1) := by decide +kernel
theorem dX12_orders_3 : decode cX12_orders 3 = .ok (.istore_n 3, 1) := by decide +kernel
theorem dX12_orders_4 : decode cX12_orders 4 = .ok (.iload_n 3, 1) := by decide +kernel
theorem dX12_orders_5 : decode cX12_orders 5 = .ok (.iload_n 0, 1) := by decide +kernel
theorem dX12_orders_6 : decode cX12_orders 6 = .ok (.if_icmp .gt 14, 3) := by decide +kernel
theorem dX12_orders_9 : decode cX12_orders 9 = .ok (.lload_n 1, 1) := by decide +kernel
theorem dX12_orders_10 : decode cX12_orders 10 = .ok (.iload_n 3, 1) := by decide +kernel
theorem dX12_orders_11 : decode cX12_orders 11 = .ok (.i2l, 1) := by decide +kernel
theorem dX12_orders_12 : decode cX12_orders 12 = .ok (.lmul, 1) := by decide +kernel
theorem dX12_orders_13 : decode cX12_orders 13 = .ok (.lstore_n 1, 1) := by decide +kernel
theorem dX12_orders_14 : decode cX12_orders 14 = .ok (.iinc 3 1, 3) := by decide +kernel
theorem dX12_orders_17 : decode cX12_orders 17 = .ok (.goto (-13), 3) := by decide +kernel
theorem dX12_orders_20 : decode cX12_orders 20 = .ok (.lload_n 1, 1) := by decide +kernel
theorem dX12_orders_21 : decode cX12_orders 21 = .ok (.lreturn, 1) := by decide +kernel
theorem dX12_divisor_0 : decode cX12_divisor 0 = .ok (.lload_n 0, 1) := by decide +kernel
theorem dX12_divisor_1 : decode cX12_divisor 1 = .ok (.lstore 4, 2) := by decide +kernel
theorem dX12_divisor_3 : decode cX12_divisor 3 = .ok (.lload_n 2, 1) := by decide +kernel
theorem dX12_divisor_4 : decode cX12_divisor 4 = .ok (.lstore 6, 2) := by decide +kernel
theorem dX12_divisor_6 : decode cX12_divisor 6 = .ok (.lload 6, 2) := by decide +kernel
theorem dX12_divisor_8 : decode cX12_divisor 8 = .ok (.lconst 0, 1) := by decide +kernel
theorem dX12_divisor_9 : decode cX12_divisor 9 = .ok (.lcmp, 1) := by decide +kernel
theorem dX12_divisor_10 : decode cX12_divisor 10 = .ok (.ifCond .eq 21, 3) := by decide +kernel
theorem dX12_divisor_13 : decode cX12_divisor 13 = .ok (.lload 4, 2) := by decide +kernel
theorem dX12_divisor_15 : decode cX12_divisor 15 = .ok (.lload 6, 2) := by decide +kernel
theorem dX12_divisor_17 : decode cX12_divisor 17 = .ok (.lrem, 1) := by decide +kernel
theorem dX12_divisor_18 : decode cX12_divisor 18 = .ok (.lstore 8, 2) := by decide +kernel
theorem dX12_divisor_20 : decode cX12_divisor 20 = .ok (.lload 6, 2) := by decide +kernel
theorem dX12_divisor_22 : decode cX12_divisor 22 = .ok (.lstore 4, 2) := by decide +kernel
theorem dX12_divisor_24 : decode cX12_divisor 24 = .ok (.lload 8, 2) := by decide +kernel
theorem dX12_divisor_26 : decode cX12_divisor 26 = .ok (.lstore 6, 2) := by decide +kernel
theorem dX12_divisor_28 : decode cX12_divisor 28 = .ok (.goto (-22), 3) := by decide +kernel
theorem dX12_divisor_31 : decode cX12_divisor 31 = .ok (.lload 4, 2) := by decide +kernel
theorem dX12_divisor_33 : decode cX12_divisor 33 = .ok (.lreturn, 1) := by decide +kernel
theorem dX12_owed_0 : decode cX12_owed 0 = .ok (.aload_n 0, 1) := by decide +kernel
theorem dX12_owed_1 : decode cX12_owed 1 = .ok (.aload_n 0, 1) := by decide +kernel
theorem dX12_owed_2 : decode cX12_owed 2 = .ok (.iload_n 1, 1) := by decide +kernel
theorem dX12_owed_3 : decode cX12_owed 3 = .ok (.invokevirtual 240, 3) := by decide +kernel
theorem dX12_owed_6 : decode cX12_owed 6 = .ok (.ifCond .eq 7, 3) := by decide +kernel
theorem dX12_owed_9 : decode cX12_owed 9 = .ok (.iconst 0, 1) := by decide +kernel
theorem dX12_owed_10 : decode cX12_owed 10 = .ok (.goto 4, 3) := by decide +kernel
theorem dX12_owed_13 : decode cX12_owed 13 = .ok (.iconst 1, 1) := by decide +kernel
theorem dX12_owed_14 : decode cX12_owed 14 = .ok (.putfield 75, 3) := by decide +kernel
theorem dX12_owed_17 : decode cX12_owed 17 = .ok (.aload_n 0, 1) := by decide +kernel
theorem dX12_owed_18 : decode cX12_owed 18 = .ok (.getfield 75, 3) := by decide +kernel
theorem dX12_owed_21 : decode cX12_owed 21 = .ok (.ifCond .le 5, 3) := by decide +kernel
theorem dX12_owed_24 : decode cX12_owed 24 = .ok (.iconst 0, 1) := by decide +kernel
theorem dX12_owed_25 : decode cX12_owed 25 = .ok (.ireturn, 1) := by decide +kernel
theorem dX12_owed_26 : decode cX12_owed 26 = .ok (.aload_n 0, 1) := by decide +kernel
theorem dX12_owed_27 : decode cX12_owed 27 = .ok (.lconst 0, 1) := by decide +kernel
theorem dX12_owed_28 : decode cX12_owed 28 = .ok (.putfield 373, 3) := by decide +kernel
theorem dX12_owed_31 : decode cX12_owed 31 = .ok (.aload_n 0, 1) := by decide +kernel
theorem dX12_owed_32 : decode cX12_owed 32 = .ok (.lconst 0, 1) := by decide +kernel
theorem dX12_owed_33 : decode cX12_owed 33 = .ok (.putfield 377, 3) := by decide +kernel
theorem dX12_owed_36 : decode cX12_owed 36 = .ok (.aload_n 0, 1) := by decide +kernel
theorem dX12_owed_37 : decode cX12_owed 37 = .ok (.invokevirtual 228, 3) := by decide +kernel
theorem dX12_owed_40 : decode cX12_owed 40 = .ok (.istore_n 2, 1) := by decide +kernel
theorem dX12_owed_41 : decode cX12_owed 41 = .ok (.iload_n 2, 1) := by decide +kernel
theorem dX12_owed_42 : decode cX12_owed 42 = .ok (.bipush 10, 2) := by decide +kernel
theorem dX12_owed_44 : decode cX12_owed 44 = .ok (.if_icmp .le 5, 3) := by decide +kernel
theorem dX12_owed_47 : decode cX12_owed 47 = .ok (.iconst 0, 1) := by decide +kernel
theorem dX12_owed_48 : decode cX12_owed 48 = .ok (.ireturn, 1) := by decide +kernel
theorem dX12_owed_49 : decode cX12_owed 49 = .ok (.aload_n 0, 1) := by decide +kernel
theorem dX12_owed_50 : decode cX12_owed 50 = .ok (.invokevirtual 380, 3) := by decide +kernel
theorem dX12_owed_53 : decode cX12_owed 53 = .ok (.iconst 0, 1) := by decide +kernel
theorem dX12_owed_54 : decode cX12_owed 54 = .ok (.istore_n 3, 1) := by decide +kernel
theorem dX12_owed_55 : decode cX12_owed 55 = .ok (.iload_n 3, 1) := by decide +kernel
theorem dX12_owed_56 : decode cX12_owed 56 = .ok (.aload_n 0, 1) := by decide +kernel
theorem dX12_owed_57 : decode cX12_owed 57 = .ok (.invokevirtual 230, 3) := by decide +kernel
theorem dX12_owed_60 : decode cX12_owed 60 = .ok (.if_icmp .gt 64, 3) := by decide +kernel
theorem dX12_owed_63 : decode cX12_owed 63 = .ok (.iload_n 3, 1) := by decide +kernel
theorem dX12_owed_64 : decode cX12_owed 64 = .ok (.iload_n 1, 1) := by decide +kernel
theorem dX12_owed_65 : decode cX12_owed 65 = .ok (.invokestatic 246, 3) := by decide +kernel
theorem dX12_owed_68 : decode cX12_owed 68 = .ok (.ifCond .ne 50, 3) := by decide +kernel
theorem dX12_owed_71 : decode cX12_owed 71 = .ok (.aload_n 0, 1) := by decide +kernel
theorem dX12_owed_72 : decode cX12_owed 72 = .ok (.dup, 1) := by decide +kernel
theorem dX12_owed_73 : decode cX12_owed 73 = .ok (.getfield 373, 3) := by decide +kernel
theorem dX12_owed_76 : decode cX12_owed 76 = .ok (.iload_n 3, 1) := by decide +kernel
theorem dX12_owed_77 : decode cX12_owed 77 = .ok (.invokestatic 285, 3) := by decide +kernel
theorem dX12_owed_80 : decode cX12_owed 80 = .ok (.invokestatic 383, 3) := by decide +kernel
theorem dX12_owed_83 : decode cX12_owed 83 = .ok (.iload_n 2, 1) := by decide +kernel
theorem dX12_owed_84 : decode cX12_owed 84 = .ok (.iconst 1, 1) := by decide +kernel
theorem dX12_owed_85 : decode cX12_owed 85 = .ok (.isub, 1) := by decide +kernel
theorem dX12_owed_86 : decode cX12_owed 86 = .ok (.iload_n 3, 1) := by decide +kernel
theorem dX12_owed_87 : decode cX12_owed 87 = .ok (.invokestatic 285, 3) := by decide +kernel
theorem dX12_owed_90 : decode cX12_owed 90 = .ok (.isub, 1) := by decide +kernel
theorem dX12_owed_91 : decode cX12_owed 91 = .ok (.invokestatic 383, 3) := by decide +kernel
theorem dX12_owed_94 : decode cX12_owed 94 = .ok (.lmul, 1) := by decide +kernel
theorem dX12_owed_95 : decode cX12_owed 95 = .ok (.aload_n 0, 1) := by decide +kernel
theorem dX12_owed_96 : decode cX12_owed 96 = .ok (.getfield 51, 3) := by decide +kernel
theorem dX12_owed_99 : decode cX12_owed 99 = .ok (.iload_n 3, 1) := by decide +kernel
theorem dX12_owed_100 : decode cX12_owed 100 = .ok (.iconst 1, 1) := by decide +kernel
theorem dX12_owed_101 : decode cX12_owed 101 = .ok (.iload_n 1, 1) := by decide +kernel
theorem dX12_owed_102 : decode cX12_owed 102 = .ok (.ishl, 1) := by decide +kernel
theorem dX12_owed_103 : decode cX12_owed 103 = .ok (.ior, 1) := by decide +kernel
theorem dX12_owed_104 : decode cX12_owed 104 = .ok (.iaload, 1) := by decide +kernel
theorem dX12_owed_105 : decode cX12_owed 105 = .ok (.aload_n 0, 1) := by decide +kernel
theorem dX12_owed_106 : decode cX12_owed 106 = .ok (.getfield 51, 3) := by decide +kernel
theorem dX12_owed_109 : decode cX12_owed 109 = .ok (.iload_n 3, 1) := by decide +kernel
theorem dX12_owed_110 : decode cX12_owed 110 = .ok (.iaload, 1) := by decide +kernel
theorem dX12_owed_111 : decode cX12_owed 111 = .ok (.isub, 1) := by decide +kernel
theorem dX12_owed_112 : decode cX12_owed 112 = .ok (.i2l, 1) := by decide +kernel
theorem dX12_owed_113 : decode cX12_owed 113 = .ok (.lmul, 1) := by decide +kernel
theorem dX12_owed_114 : decode cX12_owed 114 = .ok (.ladd, 1) := by decide +kernel
theorem dX12_owed_115 : decode cX12_owed 115 = .ok (.putfield 373, 3) := by decide +kernel
theorem dX12_owed_118 : decode cX12_owed 118 = .ok (.iinc 3 1, 3) := by decide +kernel
theorem dX12_owed_121 : decode cX12_owed 121 = .ok (.goto (-66), 3) := by decide +kernel
theorem dX12_owed_124 : decode cX12_owed 124 = .ok (.aload_n 0, 1) := by decide +kernel
theorem dX12_owed_125 : decode cX12_owed 125 = .ok (.iload_n 2, 1) := by decide +kernel
theorem dX12_owed_126 : decode cX12_owed 126 = .ok (.invokestatic 383, 3) := by decide +kernel
theorem dX12_owed_129 : decode cX12_owed 129 = .ok (.putfield 377, 3) := by decide +kernel
theorem dX12_owed_132 : decode cX12_owed 132 = .ok (.aload_n 0, 1) := by decide +kernel
theorem dX12_owed_133 : decode cX12_owed 133 = .ok (.getfield 373, 3) := by decide +kernel
theorem dX12_owed_136 : decode cX12_owed 136 = .ok (.lconst 0, 1) := by decide +kernel
theorem dX12_owed_137 : decode cX12_owed 137 = .ok (.lcmp, 1) := by decide +kernel
theorem dX12_owed_138 : decode cX12_owed 138 = .ok (.ifCond .ge 11, 3) := by decide +kernel
theorem dX12_owed_141 : decode cX12_owed 141 = .ok (.aload_n 0, 1) := by decide +kernel
theorem dX12_owed_142 : decode cX12_owed 142 = .ok (.getfield 373, 3) := by decide +kernel
theorem dX12_owed_145 : decode cX12_owed 145 = .ok (.lneg, 1) := by decide +kernel
theorem dX12_owed_146 : decode cX12_owed 146 = .ok (.goto 7, 3) := by decide +kernel
theorem dX12_owed_149 : decode cX12_owed 149 = .ok (.aload_n 0, 1) := by decide +kernel
theorem dX12_owed_150 : decode cX12_owed 150 = .ok (.getfield 373, 3) := by decide +kernel
theorem dX12_owed_153 : decode cX12_owed 153 = .ok (.aload_n 0, 1) := by decide +kernel
theorem dX12_owed_154 : decode cX12_owed 154 = .ok (.getfield 377, 3) := by decide +kernel
theorem dX12_owed_157 : decode cX12_owed 157 = .ok (.invokestatic 387, 3) := by decide +kernel
theorem dX12_owed_160 : decode cX12_owed 160 = .ok (.lstore_n 3, 1) := by decide +kernel
theorem dX12_owed_161 : decode cX12_owed 161 = .ok (.aload_n 0, 1) := by decide +kernel
theorem dX12_owed_162 : decode cX12_owed 162 = .ok (.dup, 1) := by decide +kernel
theorem dX12_owed_163 : decode cX12_owed 163 = .ok (.getfield 373, 3) := by decide +kernel
theorem dX12_owed_166 : decode cX12_owed 166 = .ok (.lload_n 3, 1) := by decide +kernel
theorem dX12_owed_167 : decode cX12_owed 167 = .ok (.ldiv, 1) := by decide +kernel
theorem dX12_owed_168 : decode cX12_owed 168 = .ok (.putfield 373, 3) := by decide +kernel
theorem dX12_owed_171 : decode cX12_owed 171 = .ok (.aload_n 0, 1) := by decide +kernel
theorem dX12_owed_172 : decode cX12_owed 172 = .ok (.dup, 1) := by decide +kernel
theorem dX12_owed_173 : decode cX12_owed 173 = .ok (.getfield 377, 3) := by decide +kernel
theorem dX12_owed_176 : decode cX12_owed 176 = .ok (.lload_n 3, 1) := by decide +kernel
theorem dX12_owed_177 : decode cX12_owed 177 = .ok (.ldiv, 1) := by decide +kernel
theorem dX12_owed_178 : decode cX12_owed 178 = .ok (.putfield 377, 3) := by decide +kernel
theorem dX12_owed_181 : decode cX12_owed 181 = .ok (.iconst 1, 1) := by decide +kernel
theorem dX12_owed_182 : decode cX12_owed 182 = .ok (.ireturn, 1) := by decide +kernel
theorem dX12_upper_0 : decode cX12_upper 0 = .ok (.aload_n 0, 1) := by decide +kernel
theorem dX12_upper_1 : decode cX12_upper 1 = .ok (.iconst 0, 1) := by decide +kernel
theorem dX12_upper_2 : decode cX12_upper 2 = .ok (.putfield 75, 3) := by decide +kernel
theorem dX12_upper_5 : decode cX12_upper 5 = .ok (.aload_n 0, 1) := by decide +kernel
theorem dX12_upper_6 : decode cX12_upper 6 = .ok (.getfield 373, 3) := by decide +kernel
theorem dX12_upper_9 : decode cX12_upper 9 = .ok (.lreturn, 1) := by decide +kernel
theorem dX12_lower_0 : decode cX12_lower 0 = .ok (.aload_n 0, 1) := by decide +kernel
theorem dX12_lower_1 : decode cX12_lower 1 = .ok (.iconst 0, 1) := by decide +kernel
theorem dX12_lower_2 : decode cX12_lower 2 = .ok (.putfield 75, 3) := by decide +kernel
theorem dX12_lower_5 : decode cX12_lower 5 = .ok (.aload_n 0, 1) := by decide +kernel
theorem dX12_lower_6 : decode cX12_lower 6 = .ok (.getfield 377, 3) := by decide +kernel
theorem dX12_lower_9 : decode cX12_lower 9 = .ok (.lreturn, 1) := by decide +kernel
theorem dX12_sooner_0 : decode cX12_sooner 0 = .ok (.aload_n 0, 1) := by decide +kernel
theorem dX12_sooner_1 : decode cX12_sooner 1 = .ok (.iconst 0, 1) := by decide +kernel
theorem dX12_sooner_2 : decode cX12_sooner 2 = .ok (.putfield 75, 3) := by decide +kernel
theorem dX12_sooner_5 : decode cX12_sooner 5 = .ok (.iload_n 1, 1) := by decide +kernel
theorem dX12_sooner_6 : decode cX12_sooner 6 = .ok (.invokestatic 391, 3) := by decide +kernel
theorem dX12_sooner_9 : decode cX12_sooner 9 = .ok (.ifCond .ne 9, 3) := by decide +kernel
theorem dX12_sooner_12 : decode cX12_sooner 12 = .ok (.aload_n 0, 1) := by decide +kernel
theorem dX12_sooner_13 : decode cX12_sooner 13 = .ok (.iconst 1, 1) := by decide +kernel
theorem dX12_sooner_14 : decode cX12_sooner 14 = .ok (.invokevirtual 219, 3) := by decide +kernel
theorem dX12_sooner_17 : decode cX12_sooner 17 = .ok (.ireturn, 1) := by decide +kernel
theorem dX12_sooner_18 : decode cX12_sooner 18 = .ok (.aload_n 0, 1) := by decide +kernel
theorem dX12_sooner_19 : decode cX12_sooner 19 = .ok (.getfield 61, 3) := by decide +kernel
theorem dX12_sooner_22 : decode cX12_sooner 22 = .ok (.iload_n 1, 1) := by decide +kernel
theorem dX12_sooner_23 : decode cX12_sooner 23 = .ok (.iaload, 1) := by decide +kernel
theorem dX12_sooner_24 : decode cX12_sooner 24 = .ok (.iconst (-1), 1) := by decide +kernel
theorem dX12_sooner_25 : decode cX12_sooner 25 = .ok (.if_icmp .ne 9, 3) := by decide +kernel
theorem dX12_sooner_28 : decode cX12_sooner 28 = .ok (.aload_n 0, 1) := by decide +kernel
theorem dX12_sooner_29 : decode cX12_sooner 29 = .ok (.iconst 2, 1) := by decide +kernel
theorem dX12_sooner_30 : decode cX12_sooner 30 = .ok (.invokevirtual 219, 3) := by decide +kernel
theorem dX12_sooner_33 : decode cX12_sooner 33 = .ok (.ireturn, 1) := by decide +kernel
theorem dX12_sooner_34 : decode cX12_sooner 34 = .ok (.aload_n 0, 1) := by decide +kernel
theorem dX12_sooner_35 : decode cX12_sooner 35 = .ok (.getfield 64, 3) := by decide +kernel
theorem dX12_sooner_38 : decode cX12_sooner 38 = .ok (.iload_n 1, 1) := by decide +kernel
theorem dX12_sooner_39 : decode cX12_sooner 39 = .ok (.iaload, 1) := by decide +kernel
theorem dX12_sooner_40 : decode cX12_sooner 40 = .ok (.aload_n 0, 1) := by decide +kernel
theorem dX12_sooner_41 : decode cX12_sooner 41 = .ok (.invokevirtual 228, 3) := by decide +kernel
theorem dX12_sooner_44 : decode cX12_sooner 44 = .ok (.if_icmp .ge 9, 3) := by decide +kernel
theorem dX12_sooner_47 : decode cX12_sooner 47 = .ok (.aload_n 0, 1) := by decide +kernel
theorem dX12_sooner_48 : decode cX12_sooner 48 = .ok (.iconst 3, 1) := by decide +kernel
theorem dX12_sooner_49 : decode cX12_sooner 49 = .ok (.invokevirtual 219, 3) := by decide +kernel
theorem dX12_sooner_52 : decode cX12_sooner 52 = .ok (.ireturn, 1) := by decide +kernel
theorem dX12_sooner_53 : decode cX12_sooner 53 = .ok (.aload_n 0, 1) := by decide +kernel
theorem dX12_sooner_54 : decode cX12_sooner 54 = .ok (.invokevirtual 228, 3) := by decide +kernel
theorem dX12_sooner_57 : decode cX12_sooner 57 = .ok (.bipush 10, 2) := by decide +kernel
theorem dX12_sooner_59 : decode cX12_sooner 59 = .ok (.if_icmp .gt 7, 3) := by decide +kernel
theorem dX12_sooner_62 : decode cX12_sooner 62 = .ok (.iconst 1, 1) := by decide +kernel
theorem dX12_sooner_63 : decode cX12_sooner 63 = .ok (.goto 4, 3) := by decide +kernel
theorem dX12_sooner_66 : decode cX12_sooner 66 = .ok (.iconst 0, 1) := by decide +kernel
theorem dX12_sooner_67 : decode cX12_sooner 67 = .ok (.istore_n 2, 1) := by decide +kernel
theorem dX12_sooner_68 : decode cX12_sooner 68 = .ok (.iconst 0, 1) := by decide +kernel
theorem dX12_sooner_69 : decode cX12_sooner 69 = .ok (.istore_n 3, 1) := by decide +kernel
theorem dX12_sooner_70 : decode cX12_sooner 70 = .ok (.iload_n 3, 1) := by decide +kernel
theorem dX12_sooner_71 : decode cX12_sooner 71 = .ok (.aload_n 0, 1) := by decide +kernel
theorem dX12_sooner_72 : decode cX12_sooner 72 = .ok (.invokevirtual 228, 3) := by decide +kernel
theorem dX12_sooner_75 : decode cX12_sooner 75 = .ok (.if_icmp .ge 42, 3) := by decide +kernel
theorem dX12_sooner_78 : decode cX12_sooner 78 = .ok (.iload_n 2, 1) := by decide +kernel
theorem dX12_sooner_79 : decode cX12_sooner 79 = .ok (.ifCond .eq 30, 3) := by decide +kernel
theorem dX12_sooner_82 : decode cX12_sooner 82 = .ok (.aload_n 0, 1) := by decide +kernel
theorem dX12_sooner_83 : decode cX12_sooner 83 = .ok (.getfield 67, 3) := by decide +kernel
theorem dX12_sooner_86 : decode cX12_sooner 86 = .ok (.bipush 40, 2) := by decide +kernel
theorem dX12_sooner_88 : decode cX12_sooner 88 = .ok (.iload_n 1, 1) := by decide +kernel
theorem dX12_sooner_89 : decode cX12_sooner 89 = .ok (.imul, 1) := by decide +kernel
theorem dX12_sooner_90 : decode cX12_sooner 90 = .ok (.iload_n 3, 1) := by decide +kernel
theorem dX12_sooner_91 : decode cX12_sooner 91 = .ok (.iadd, 1) := by decide +kernel
theorem dX12_sooner_92 : decode cX12_sooner 92 = .ok (.laload, 1) := by decide +kernel
theorem dX12_sooner_93 : decode cX12_sooner 93 = .ok (.ldc2_w 394, 3) := by decide +kernel
theorem dX12_sooner_96 : decode cX12_sooner 96 = .ok (.ldc2_w 396, 3) := by decide +kernel
theorem dX12_sooner_99 : decode cX12_sooner 99 = .ok (.invokestatic 134, 3) := by decide +kernel
theorem dX12_sooner_102 : decode cX12_sooner 102 = .ok (.ifCond .eq 7, 3) := by decide +kernel
theorem dX12_sooner_105 : decode cX12_sooner 105 = .ok (.iconst 1, 1) := by decide +kernel
theorem dX12_sooner_106 : decode cX12_sooner 106 = .ok (.goto 4, 3) := by decide +kernel
theorem dX12_sooner_109 : decode cX12_sooner 109 = .ok (.iconst 0, 1) := by decide +kernel
theorem dX12_sooner_110 : decode cX12_sooner 110 = .ok (.istore_n 2, 1) := by decide +kernel
theorem dX12_sooner_111 : decode cX12_sooner 111 = .ok (.iinc 3 1, 3) := by decide +kernel
theorem dX12_sooner_114 : decode cX12_sooner 114 = .ok (.goto (-44), 3) := by decide +kernel
theorem dX12_sooner_117 : decode cX12_sooner 117 = .ok (.iload_n 2, 1) := by decide +kernel
theorem dX12_sooner_118 : decode cX12_sooner 118 = .ok (.ifCond .ne 9, 3) := by decide +kernel
theorem dX12_sooner_121 : decode cX12_sooner 121 = .ok (.aload_n 0, 1) := by decide +kernel
theorem dX12_sooner_122 : decode cX12_sooner 122 = .ok (.iconst 4, 1) := by decide +kernel
theorem dX12_sooner_123 : decode cX12_sooner 123 = .ok (.invokevirtual 219, 3) := by decide +kernel
theorem dX12_sooner_126 : decode cX12_sooner 126 = .ok (.ireturn, 1) := by decide +kernel
theorem dX12_sooner_127 : decode cX12_sooner 127 = .ok (.aload_n 0, 1) := by decide +kernel
theorem dX12_sooner_128 : decode cX12_sooner 128 = .ok (.invokevirtual 380, 3) := by decide +kernel
theorem dX12_sooner_131 : decode cX12_sooner 131 = .ok (.iconst 1, 1) := by decide +kernel
theorem dX12_sooner_132 : decode cX12_sooner 132 = .ok (.istore_n 3, 1) := by decide +kernel
theorem dX12_sooner_133 : decode cX12_sooner 133 = .ok (.iload_n 3, 1) := by decide +kernel
theorem dX12_sooner_134 : decode cX12_sooner 134 = .ok (.aload_n 0, 1) := by decide +kernel
theorem dX12_sooner_135 : decode cX12_sooner 135 = .ok (.invokevirtual 230, 3) := by decide +kernel
theorem dX12_sooner_138 : decode cX12_sooner 138 = .ok (.if_icmp .gt 75, 3) := by decide +kernel
theorem dX12_sooner_141 : decode cX12_sooner 141 = .ok (.lconst 0, 1) := by decide +kernel
theorem dX12_sooner_142 : decode cX12_sooner 142 = .ok (.lstore 4, 2) := by decide +kernel
theorem dX12_sooner_144 : decode cX12_sooner 144 = .ok (.iconst 0, 1) := by decide +kernel
theorem dX12_sooner_145 : decode cX12_sooner 145 = .ok (.istore 6, 2) := by decide +kernel
theorem dX12_sooner_147 : decode cX12_sooner 147 = .ok (.iload 6, 2) := by decide +kernel
theorem dX12_sooner_149 : decode cX12_sooner 149 = .ok (.aload_n 0, 1) := by decide +kernel
theorem dX12_sooner_150 : decode cX12_sooner 150 = .ok (.invokevirtual 228, 3) := by decide +kernel
theorem dX12_sooner_153 : decode cX12_sooner 153 = .ok (.if_icmp .ge 39, 3) := by decide +kernel
theorem dX12_sooner_156 : decode cX12_sooner 156 = .ok (.lload 4, 2) := by decide +kernel
theorem dX12_sooner_158 : decode cX12_sooner 158 = .ok (.iload_n 3, 1) := by decide +kernel
theorem dX12_sooner_159 : decode cX12_sooner 159 = .ok (.iload 6, 2) := by decide +kernel
theorem dX12_sooner_161 : decode cX12_sooner 161 = .ok (.invokestatic 246, 3) := by decide +kernel
theorem dX12_sooner_164 : decode cX12_sooner 164 = .ok (.ifCond .eq 18, 3) := by decide +kernel
theorem dX12_sooner_167 : decode cX12_sooner 167 = .ok (.aload_n 0, 1) := by decide +kernel
theorem dX12_sooner_168 : decode cX12_sooner 168 = .ok (.getfield 67, 3) := by decide +kernel
theorem dX12_sooner_171 : decode cX12_sooner 171 = .ok (.bipush 40, 2) := by decide +kernel
theorem dX12_sooner_173 : decode cX12_sooner 173 = .ok (.iload_n 1, 1) := by decide +kernel
theorem dX12_sooner_174 : decode cX12_sooner 174 = .ok (.imul, 1) := by decide +kernel
theorem dX12_sooner_175 : decode cX12_sooner 175 = .ok (.iload 6, 2) := by decide +kernel
theorem dX12_sooner_177 : decode cX12_sooner 177 = .ok (.iadd, 1) := by decide +kernel
theorem dX12_sooner_178 : decode cX12_sooner 178 = .ok (.laload, 1) := by decide +kernel
theorem dX12_sooner_179 : decode cX12_sooner 179 = .ok (.goto 4, 3) := by decide +kernel
theorem dX12_sooner_182 : decode cX12_sooner 182 = .ok (.lconst 0, 1) := by decide +kernel
theorem dX12_sooner_183 : decode cX12_sooner 183 = .ok (.ladd, 1) := by decide +kernel
theorem dX12_sooner_184 : decode cX12_sooner 184 = .ok (.lstore 4, 2) := by decide +kernel
theorem dX12_sooner_186 : decode cX12_sooner 186 = .ok (.iinc 6 1, 3) := by decide +kernel
theorem dX12_sooner_189 : decode cX12_sooner 189 = .ok (.goto (-42), 3) := by decide +kernel
theorem dX12_sooner_192 : decode cX12_sooner 192 = .ok (.aload_n 0, 1) := by decide +kernel
theorem dX12_sooner_193 : decode cX12_sooner 193 = .ok (.getfield 51, 3) := by decide +kernel
theorem dX12_sooner_196 : decode cX12_sooner 196 = .ok (.iload_n 3, 1) := by decide +kernel
theorem dX12_sooner_197 : decode cX12_sooner 197 = .ok (.iaload, 1) := by decide +kernel
theorem dX12_sooner_198 : decode cX12_sooner 198 = .ok (.i2l, 1) := by decide +kernel
theorem dX12_sooner_199 : decode cX12_sooner 199 = .ok (.lload 4, 2) := by decide +kernel
theorem dX12_sooner_201 : decode cX12_sooner 201 = .ok (.lcmp, 1) := by decide +kernel
theorem dX12_sooner_202 : decode cX12_sooner 202 = .ok (.ifCond .le 5, 3) := by decide +kernel
theorem dX12_sooner_205 : decode cX12_sooner 205 = .ok (.iload_n 3, 1) := by decide +kernel
theorem dX12_sooner_206 : decode cX12_sooner 206 = .ok (.ireturn, 1) := by decide +kernel
theorem dX12_sooner_207 : decode cX12_sooner 207 = .ok (.iinc 3 1, 3) := by decide +kernel
theorem dX12_sooner_210 : decode cX12_sooner 210 = .ok (.goto (-77), 3) := by decide +kernel
theorem dX12_sooner_213 : decode cX12_sooner 213 = .ok (.iconst (-1), 1) := by decide +kernel
theorem dX12_sooner_214 : decode cX12_sooner 214 = .ok (.ireturn, 1) := by decide +kernel
theorem dX12_layLeft_0 : decode cX12_layLeft 0 = .ok (.aload_n 0, 1) := by decide +kernel
theorem dX12_layLeft_1 : decode cX12_layLeft 1 = .ok (.invokevirtual 347, 3) := by decide +kernel
theorem dX12_layLeft_4 : decode cX12_layLeft 4 = .ok (.aload_n 0, 1) := by decide +kernel
theorem dX12_layLeft_5 : decode cX12_layLeft 5 = .ok (.invokevirtual 291, 3) := by decide +kernel
theorem dX12_layLeft_8 : decode cX12_layLeft 8 = .ok (.iconst 0, 1) := by decide +kernel
theorem dX12_layLeft_9 : decode cX12_layLeft 9 = .ok (.istore_n 2, 1) := by decide +kernel
theorem dX12_layLeft_10 : decode cX12_layLeft 10 = .ok (.iconst 0, 1) := by decide +kernel
theorem dX12_layLeft_11 : decode cX12_layLeft 11 = .ok (.istore_n 3, 1) := by decide +kernel
theorem dX12_layLeft_12 : decode cX12_layLeft 12 = .ok (.iload_n 3, 1) := by decide +kernel
theorem dX12_layLeft_13 : decode cX12_layLeft 13 = .ok (.aload_n 0, 1) := by decide +kernel
theorem dX12_layLeft_14 : decode cX12_layLeft 14 = .ok (.getfield 55, 3) := by decide +kernel
theorem dX12_layLeft_17 : decode cX12_layLeft 17 = .ok (.arraylength, 1) := by decide +kernel
theorem dX12_layLeft_18 : decode cX12_layLeft 18 = .ok (.if_icmp .ge 16, 3) := by decide +kernel
theorem dX12_layLeft_21 : decode cX12_layLeft 21 = .ok (.aload_n 0, 1) := by decide +kernel
theorem dX12_layLeft_22 : decode cX12_layLeft 22 = .ok (.getfield 55, 3) := by decide +kernel
theorem dX12_layLeft_25 : decode cX12_layLeft 25 = .ok (.iload_n 3, 1) := by decide +kernel
theorem dX12_layLeft_26 : decode cX12_layLeft 26 = .ok (.iconst (-1), 1) := by decide +kernel
theorem dX12_layLeft_27 : decode cX12_layLeft 27 = .ok (.iastore, 1) := by decide +kernel
theorem dX12_layLeft_28 : decode cX12_layLeft 28 = .ok (.iinc 3 1, 3) := by decide +kernel
theorem dX12_layLeft_31 : decode cX12_layLeft 31 = .ok (.goto (-19), 3) := by decide +kernel
theorem dX12_layLeft_34 : decode cX12_layLeft 34 = .ok (.iconst 0, 1) := by decide +kernel
theorem dX12_layLeft_35 : decode cX12_layLeft 35 = .ok (.istore_n 3, 1) := by decide +kernel
theorem dX12_layLeft_36 : decode cX12_layLeft 36 = .ok (.iload_n 3, 1) := by decide +kernel
theorem dX12_layLeft_37 : decode cX12_layLeft 37 = .ok (.aload_n 0, 1) := by decide +kernel
theorem dX12_layLeft_38 : decode cX12_layLeft 38 = .ok (.invokevirtual 230, 3) := by decide +kernel
theorem dX12_layLeft_41 : decode cX12_layLeft 41 = .ok (.if_icmp .gt 61, 3) := by decide +kernel
theorem dX12_layLeft_44 : decode cX12_layLeft 44 = .ok (.iload_n 3, 1) := by decide +kernel
theorem dX12_layLeft_45 : decode cX12_layLeft 45 = .ok (.iload_n 1, 1) := by decide +kernel
theorem dX12_layLeft_46 : decode cX12_layLeft 46 = .ok (.invokestatic 246, 3) := by decide +kernel
theorem dX12_layLeft_49 : decode cX12_layLeft 49 = .ok (.ifCond .eq 47, 3) := by decide +kernel
theorem dX12_layLeft_52 : decode cX12_layLeft 52 = .ok (.aload_n 0, 1) := by decide +kernel
theorem dX12_layLeft_53 : decode cX12_layLeft 53 = .ok (.iload_n 3, 1) := by decide +kernel
theorem dX12_layLeft_54 : decode cX12_layLeft 54 = .ok (.aload_n 0, 1) := by decide +kernel
theorem dX12_layLeft_55 : decode cX12_layLeft 55 = .ok (.invokevirtual 230, 3) := by decide +kernel
theorem dX12_layLeft_58 : decode cX12_layLeft 58 = .ok (.invokevirtual 294, 3) := by decide +kernel
theorem dX12_layLeft_61 : decode cX12_layLeft 61 = .ok (.ifCond .ne 6, 3) := by decide +kernel
theorem dX12_layLeft_64 : decode cX12_layLeft 64 = .ok (.goto 32, 3) := by decide +kernel
theorem dX12_layLeft_67 : decode cX12_layLeft 67 = .ok (.aload_n 0, 1) := by decide +kernel
theorem dX12_layLeft_68 : decode cX12_layLeft 68 = .ok (.getfield 55, 3) := by decide +kernel
theorem dX12_layLeft_71 : decode cX12_layLeft 71 = .ok (.sipush 4096, 3) := by decide +kernel
theorem dX12_layLeft_74 : decode cX12_layLeft 74 = .ok (.iload_n 1, 1) := by decide +kernel
theorem dX12_layLeft_75 : decode cX12_layLeft 75 = .ok (.imul, 1) := by decide +kernel
theorem dX12_layLeft_76 : decode cX12_layLeft 76 = .ok (.iload_n 3, 1) := by decide +kernel
theorem dX12_layLeft_77 : decode cX12_layLeft 77 = .ok (.iadd, 1) := by decide +kernel
theorem dX12_layLeft_78 : decode cX12_layLeft 78 = .ok (.iconst 0, 1) := by decide +kernel
theorem dX12_layLeft_79 : decode cX12_layLeft 79 = .ok (.iastore, 1) := by decide +kernel
theorem dX12_layLeft_80 : decode cX12_layLeft 80 = .ok (.aload_n 0, 1) := by decide +kernel
theorem dX12_layLeft_81 : decode cX12_layLeft 81 = .ok (.getfield 58, 3) := by decide +kernel
theorem dX12_layLeft_84 : decode cX12_layLeft 84 = .ok (.iload_n 2, 1) := by decide +kernel
theorem dX12_layLeft_85 : decode cX12_layLeft 85 = .ok (.sipush 4096, 3) := by decide +kernel
theorem dX12_layLeft_88 : decode cX12_layLeft 88 = .ok (.iload_n 1, 1) := by decide +kernel
theorem dX12_layLeft_89 : decode cX12_layLeft 89 = .ok (.imul, 1) := by decide +kernel
theorem dX12_layLeft_90 : decode cX12_layLeft 90 = .ok (.iload_n 3, 1) := by decide +kernel
theorem dX12_layLeft_91 : decode cX12_layLeft 91 = .ok (.iadd, 1) := by decide +kernel
theorem dX12_layLeft_92 : decode cX12_layLeft 92 = .ok (.iastore, 1) := by decide +kernel
theorem dX12_layLeft_93 : decode cX12_layLeft 93 = .ok (.iinc 2 1, 3) := by decide +kernel
theorem dX12_layLeft_96 : decode cX12_layLeft 96 = .ok (.iinc 3 1, 3) := by decide +kernel
theorem dX12_layLeft_99 : decode cX12_layLeft 99 = .ok (.goto (-63), 3) := by decide +kernel
theorem dX12_layLeft_102 : decode cX12_layLeft 102 = .ok (.iconst 0, 1) := by decide +kernel
theorem dX12_layLeft_103 : decode cX12_layLeft 103 = .ok (.istore_n 3, 1) := by decide +kernel
theorem dX12_layLeft_104 : decode cX12_layLeft 104 = .ok (.iload_n 3, 1) := by decide +kernel
theorem dX12_layLeft_105 : decode cX12_layLeft 105 = .ok (.iload_n 2, 1) := by decide +kernel
theorem dX12_layLeft_106 : decode cX12_layLeft 106 = .ok (.if_icmp .ge 124, 3) := by decide +kernel
theorem dX12_layLeft_109 : decode cX12_layLeft 109 = .ok (.aload_n 0, 1) := by decide +kernel
theorem dX12_layLeft_110 : decode cX12_layLeft 110 = .ok (.getfield 58, 3) := by decide +kernel
theorem dX12_layLeft_113 : decode cX12_layLeft 113 = .ok (.iload_n 3, 1) := by decide +kernel
theorem dX12_layLeft_114 : decode cX12_layLeft 114 = .ok (.iaload, 1) := by decide +kernel
theorem dX12_layLeft_115 : decode cX12_layLeft 115 = .ok (.sipush 4096, 3) := by decide +kernel
theorem dX12_layLeft_118 : decode cX12_layLeft 118 = .ok (.idiv, 1) := by decide +kernel
theorem dX12_layLeft_119 : decode cX12_layLeft 119 = .ok (.istore 4, 2) := by decide +kernel
theorem dX12_layLeft_121 : decode cX12_layLeft 121 = .ok (.aload_n 0, 1) := by decide +kernel
theorem dX12_layLeft_122 : decode cX12_layLeft 122 = .ok (.getfield 58, 3) := by decide +kernel
theorem dX12_layLeft_125 : decode cX12_layLeft 125 = .ok (.iload_n 3, 1) := by decide +kernel
theorem dX12_layLeft_126 : decode cX12_layLeft 126 = .ok (.iaload, 1) := by decide +kernel
theorem dX12_layLeft_127 : decode cX12_layLeft 127 = .ok (.sipush 4096, 3) := by decide +kernel
theorem dX12_layLeft_130 : decode cX12_layLeft 130 = .ok (.irem, 1) := by decide +kernel
theorem dX12_layLeft_131 : decode cX12_layLeft 131 = .ok (.istore 5, 2) := by decide +kernel
theorem dX12_layLeft_133 : decode cX12_layLeft 133 = .ok (.iconst 0, 1) := by decide +kernel
theorem dX12_layLeft_134 : decode cX12_layLeft 134 = .ok (.istore 6, 2) := by decide +kernel
theorem dX12_layLeft_136 : decode cX12_layLeft 136 = .ok (.iload 6, 2) := by decide +kernel
theorem dX12_layLeft_138 : decode cX12_layLeft 138 = .ok (.aload_n 0, 1) := by decide +kernel
theorem dX12_layLeft_139 : decode cX12_layLeft 139 = .ok (.invokevirtual 228, 3) := by decide +kernel
theorem dX12_layLeft_142 : decode cX12_layLeft 142 = .ok (.if_icmp .ge 82, 3) := by decide +kernel
theorem dX12_layLeft_145 : decode cX12_layLeft 145 = .ok (.aload_n 0, 1) := by decide +kernel
theorem dX12_layLeft_146 : decode cX12_layLeft 146 = .ok (.getfield 45, 3) := by decide +kernel
theorem dX12_layLeft_149 : decode cX12_layLeft 149 = .ok (.bipush 16, 2) := by decide +kernel
theorem dX12_layLeft_151 : decode cX12_layLeft 151 = .ok (.iload 6, 2) := by decide +kernel
theorem dX12_layLeft_153 : decode cX12_layLeft 153 = .ok (.imul, 1) := by decide +kernel
theorem dX12_layLeft_154 : decode cX12_layLeft 154 = .ok (.iload 4, 2) := by decide +kernel
