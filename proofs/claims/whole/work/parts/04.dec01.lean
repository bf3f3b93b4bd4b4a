theorem dX3_litWithHole_50 : decode cX3_litWithHole 50 = .ok (.iadd, 1) := by decide +kernel
theorem dX3_litWithHole_51 : decode cX3_litWithHole 51 = .ok (.iaload, 1) := by decide +kernel
theorem dX3_litWithHole_52 : decode cX3_litWithHole 52 = .ok (.iconst 1, 1) := by decide +kernel
theorem dX3_litWithHole_53 : decode cX3_litWithHole 53 = .ok (.if_icmp .ne 13, 3) := by decide +kernel
theorem dX3_litWithHole_56 : decode cX3_litWithHole 56 = .ok (.aload_n 2, 1) := by decide +kernel
theorem dX3_litWithHole_57 : decode cX3_litWithHole 57 = .ok (.iload 4, 2) := by decide +kernel
theorem dX3_litWithHole_59 : decode cX3_litWithHole 59 = .ok (.dup2, 1) := by decide +kernel
theorem dX3_litWithHole_60 : decode cX3_litWithHole 60 = .ok (.iaload, 1) := by decide +kernel
theorem dX3_litWithHole_61 : decode cX3_litWithHole 61 = .ok (.iconst 1, 1) := by decide +kernel
theorem dX3_litWithHole_62 : decode cX3_litWithHole 62 = .ok (.iload_n 3, 1) := by decide +kernel
theorem dX3_litWithHole_63 : decode cX3_litWithHole 63 = .ok (.ishl, 1) := by decide +kernel
theorem dX3_litWithHole_64 : decode cX3_litWithHole 64 = .ok (.ior, 1) := by decide +kernel
theorem dX3_litWithHole_65 : decode cX3_litWithHole 65 = .ok (.iastore, 1) := by decide +kernel
theorem dX3_litWithHole_66 : decode cX3_litWithHole 66 = .ok (.aload_n 2, 1) := by decide +kernel
theorem dX3_litWithHole_67 : decode cX3_litWithHole 67 = .ok (.areturn, 1) := by decide +kernel
theorem dX3_shineInto_0 : decode cX3_shineInto 0 = .ok (.aload_n 1, 1) := by decide +kernel
theorem dX3_shineInto_1 : decode cX3_shineInto 1 = .ok (.iconst 0, 1) := by decide +kernel
theorem dX3_shineInto_2 : decode cX3_shineInto 2 = .ok (.invokestatic 61, 3) := by decide +kernel
theorem dX3_shineInto_5 : decode cX3_shineInto 5 = .ok (.iconst 0, 1) := by decide +kernel
theorem dX3_shineInto_6 : decode cX3_shineInto 6 = .ok (.istore 4, 2) := by decide +kernel
theorem dX3_shineInto_8 : decode cX3_shineInto 8 = .ok (.iload 4, 2) := by decide +kernel
theorem dX3_shineInto_10 : decode cX3_shineInto 10 = .ok (.aload_n 0, 1) := by decide +kernel
theorem dX3_shineInto_11 : decode cX3_shineInto 11 = .ok (.getfield 21, 3) := by decide +kernel
theorem dX3_shineInto_14 : decode cX3_shineInto 14 = .ok (.if_icmp .ge 121, 3) := by decide +kernel
theorem dX3_shineInto_17 : decode cX3_shineInto 17 = .ok (.aload_n 0, 1) := by decide +kernel
theorem dX3_shineInto_18 : decode cX3_shineInto 18 = .ok (.getfield 33, 3) := by decide +kernel
theorem dX3_shineInto_21 : decode cX3_shineInto 21 = .ok (.iload 4, 2) := by decide +kernel
theorem dX3_shineInto_23 : decode cX3_shineInto 23 = .ok (.iconst 4, 1) := by decide +kernel
theorem dX3_shineInto_24 : decode cX3_shineInto 24 = .ok (.imul, 1) := by decide +kernel
theorem dX3_shineInto_25 : decode cX3_shineInto 25 = .ok (.iaload, 1) := by decide +kernel
theorem dX3_shineInto_26 : decode cX3_shineInto 26 = .ok (.istore 5, 2) := by decide +kernel
theorem dX3_shineInto_28 : decode cX3_shineInto 28 = .ok (.aload_n 0, 1) := by decide +kernel
theorem dX3_shineInto_29 : decode cX3_shineInto 29 = .ok (.getfield 33, 3) := by decide +kernel
theorem dX3_shineInto_32 : decode cX3_shineInto 32 = .ok (.iload 4, 2) := by decide +kernel
theorem dX3_shineInto_34 : decode cX3_shineInto 34 = .ok (.iconst 4, 1) := by decide +kernel
theorem dX3_shineInto_35 : decode cX3_shineInto 35 = .ok (.imul, 1) := by decide +kernel
theorem dX3_shineInto_36 : decode cX3_shineInto 36 = .ok (.iconst 1, 1) := by decide +kernel
theorem dX3_shineInto_37 : decode cX3_shineInto 37 = .ok (.iadd, 1) := by decide +kernel
theorem dX3_shineInto_38 : decode cX3_shineInto 38 = .ok (.iaload, 1) := by decide +kernel
theorem dX3_shineInto_39 : decode cX3_shineInto 39 = .ok (.istore 6, 2) := by decide +kernel
theorem dX3_shineInto_41 : decode cX3_shineInto 41 = .ok (.aload_n 0, 1) := by decide +kernel
theorem dX3_shineInto_42 : decode cX3_shineInto 42 = .ok (.getfield 33, 3) := by decide +kernel
theorem dX3_shineInto_45 : decode cX3_shineInto 45 = .ok (.iload 4, 2) := by decide +kernel
theorem dX3_shineInto_47 : decode cX3_shineInto 47 = .ok (.iconst 4, 1) := by decide +kernel
theorem dX3_shineInto_48 : decode cX3_shineInto 48 = .ok (.imul, 1) := by decide +kernel
theorem dX3_shineInto_49 : decode cX3_shineInto 49 = .ok (.iconst 2, 1) := by decide +kernel
theorem dX3_shineInto_50 : decode cX3_shineInto 50 = .ok (.iadd, 1) := by decide +kernel
theorem dX3_shineInto_51 : decode cX3_shineInto 51 = .ok (.iaload, 1) := by decide +kernel
theorem dX3_shineInto_52 : decode cX3_shineInto 52 = .ok (.istore 7, 2) := by decide +kernel
theorem dX3_shineInto_54 : decode cX3_shineInto 54 = .ok (.iload_n 3, 1) := by decide +kernel
theorem dX3_shineInto_55 : decode cX3_shineInto 55 = .ok (.iload 5, 2) := by decide +kernel
theorem dX3_shineInto_57 : decode cX3_shineInto 57 = .ok (.ishr, 1) := by decide +kernel
theorem dX3_shineInto_58 : decode cX3_shineInto 58 = .ok (.iconst 1, 1) := by decide +kernel
theorem dX3_shineInto_59 : decode cX3_shineInto 59 = .ok (.iand, 1) := by decide +kernel
theorem dX3_shineInto_60 : decode cX3_shineInto 60 = .ok (.ifCond .eq 24, 3) := by decide +kernel
theorem dX3_shineInto_63 : decode cX3_shineInto 63 = .ok (.aload_n 1, 1) := by decide +kernel
theorem dX3_shineInto_64 : decode cX3_shineInto 64 = .ok (.iload 6, 2) := by decide +kernel
theorem dX3_shineInto_66 : decode cX3_shineInto 66 = .ok (.dup2, 1) := by decide +kernel
theorem dX3_shineInto_67 : decode cX3_shineInto 67 = .ok (.iaload, 1) := by decide +kernel
theorem dX3_shineInto_68 : decode cX3_shineInto 68 = .ok (.aload_n 0, 1) := by decide +kernel
theorem dX3_shineInto_69 : decode cX3_shineInto 69 = .ok (.aload_n 2, 1) := by decide +kernel
theorem dX3_shineInto_70 : decode cX3_shineInto 70 = .ok (.iload 5, 2) := by decide +kernel
theorem dX3_shineInto_72 : decode cX3_shineInto 72 = .ok (.iaload, 1) := by decide +kernel
theorem dX3_shineInto_73 : decode cX3_shineInto 73 = .ok (.invokevirtual 76, 3) := by decide +kernel
theorem dX3_shineInto_76 : decode cX3_shineInto 76 = .ok (.iload 7, 2) := by decide +kernel
theorem dX3_shineInto_78 : decode cX3_shineInto 78 = .ok (.imul, 1) := by decide +kernel
theorem dX3_shineInto_79 : decode cX3_shineInto 79 = .ok (.bipush 100, 2) := by decide +kernel
theorem dX3_shineInto_81 : decode cX3_shineInto 81 = .ok (.idiv, 1) := by decide +kernel
theorem dX3_shineInto_82 : decode cX3_shineInto 82 = .ok (.iadd, 1) := by decide +kernel
theorem dX3_shineInto_83 : decode cX3_shineInto 83 = .ok (.iastore, 1) := by decide +kernel
theorem dX3_shineInto_84 : decode cX3_shineInto 84 = .ok (.aload_n 0, 1) := by decide +kernel
theorem dX3_shineInto_85 : decode cX3_shineInto 85 = .ok (.getfield 33, 3) := by decide +kernel
theorem dX3_shineInto_88 : decode cX3_shineInto 88 = .ok (.iload 4, 2) := by decide +kernel
theorem dX3_shineInto_90 : decode cX3_shineInto 90 = .ok (.iconst 4, 1) := by decide +kernel
theorem dX3_shineInto_91 : decode cX3_shineInto 91 = .ok (.imul, 1) := by decide +kernel
theorem dX3_shineInto_92 : decode cX3_shineInto 92 = .ok (.iconst 3, 1) := by decide +kernel
theorem dX3_shineInto_93 : decode cX3_shineInto 93 = .ok (.iadd, 1) := by decide +kernel
theorem dX3_shineInto_94 : decode cX3_shineInto 94 = .ok (.iaload, 1) := by decide +kernel
theorem dX3_shineInto_95 : decode cX3_shineInto 95 = .ok (.iconst 1, 1) := by decide +kernel
theorem dX3_shineInto_96 : decode cX3_shineInto 96 = .ok (.if_icmp .ne 33, 3) := by decide +kernel
theorem dX3_shineInto_99 : decode cX3_shineInto 99 = .ok (.iload_n 3, 1) := by decide +kernel
theorem dX3_shineInto_100 : decode cX3_shineInto 100 = .ok (.iload 6, 2) := by decide +kernel
theorem dX3_shineInto_102 : decode cX3_shineInto 102 = .ok (.ishr, 1) := by decide +kernel
theorem dX3_shineInto_103 : decode cX3_shineInto 103 = .ok (.iconst 1, 1) := by decide +kernel
theorem dX3_shineInto_104 : decode cX3_shineInto 104 = .ok (.iand, 1) := by decide +kernel
theorem dX3_shineInto_105 : decode cX3_shineInto 105 = .ok (.ifCond .eq 24, 3) := by decide +kernel
theorem dX3_shineInto_108 : decode cX3_shineInto 108 = .ok (.aload_n 1, 1) := by decide +kernel
theorem dX3_shineInto_109 : decode cX3_shineInto 109 = .ok (.iload 5, 2) := by decide +kernel
theorem dX3_shineInto_111 : decode cX3_shineInto 111 = .ok (.dup2, 1) := by decide +kernel
theorem dX3_shineInto_112 : decode cX3_shineInto 112 = .ok (.iaload, 1) := by decide +kernel
theorem dX3_shineInto_113 : decode cX3_shineInto 113 = .ok (.aload_n 0, 1) := by decide +kernel
theorem dX3_shineInto_114 : decode cX3_shineInto 114 = .ok (.aload_n 2, 1) := by decide +kernel
theorem dX3_shineInto_115 : decode cX3_shineInto 115 = .ok (.iload 6, 2) := by decide +kernel
theorem dX3_shineInto_117 : decode cX3_shineInto 117 = .ok (.iaload, 1) := by decide +kernel
theorem dX3_shineInto_118 : decode cX3_shineInto 118 = .ok (.invokevirtual 76, 3) := by decide +kernel
theorem dX3_shineInto_121 : decode cX3_shineInto 121 = .ok (.iload 7, 2) := by decide +kernel
theorem dX3_shineInto_123 : decode cX3_shineInto 123 = .ok (.imul, 1) := by decide +kernel
theorem dX3_shineInto_124 : decode cX3_shineInto 124 = .ok (.bipush 100, 2) := by decide +kernel
theorem dX3_shineInto_126 : decode cX3_shineInto 126 = .ok (.idiv, 1) := by decide +kernel
theorem dX3_shineInto_127 : decode cX3_shineInto 127 = .ok (.iadd, 1) := by decide +kernel
theorem dX3_shineInto_128 : decode cX3_shineInto 128 = .ok (.iastore, 1) := by decide +kernel
theorem dX3_shineInto_129 : decode cX3_shineInto 129 = .ok (.iinc 4 1, 3) := by decide +kernel
theorem dX3_shineInto_132 : decode cX3_shineInto 132 = .ok (.goto (-124), 3) := by decide +kernel
theorem dX3_shineInto_135 : decode cX3_shineInto 135 = .ok (.return_, 1) := by decide +kernel
theorem dX3_wantedAt_0 : decode cX3_wantedAt 0 = .ok (.aload_n 0, 1) := by decide +kernel
theorem dX3_wantedAt_1 : decode cX3_wantedAt 1 = .ok (.getfield 40, 3) := by decide +kernel
theorem dX3_wantedAt_4 : decode cX3_wantedAt 4 = .ok (.iload_n 1, 1) := by decide +kernel
theorem dX3_wantedAt_5 : decode cX3_wantedAt 5 = .ok (.iconst 5, 1) := by decide +kernel
theorem dX3_wantedAt_6 : decode cX3_wantedAt 6 = .ok (.imul, 1) := by decide +kernel
theorem dX3_wantedAt_7 : decode cX3_wantedAt 7 = .ok (.iconst 3, 1) := by decide +kernel
theorem dX3_wantedAt_8 : decode cX3_wantedAt 8 = .ok (.iadd, 1) := by decide +kernel
theorem dX3_wantedAt_9 : decode cX3_wantedAt 9 = .ok (.iaload, 1) := by decide +kernel
theorem dX3_wantedAt_10 : decode cX3_wantedAt 10 = .ok (.iload_n 2, 1) := by decide +kernel
theorem dX3_wantedAt_11 : decode cX3_wantedAt 11 = .ok (.if_icmp .gt 21, 3) := by decide +kernel
theorem dX3_wantedAt_14 : decode cX3_wantedAt 14 = .ok (.iload_n 2, 1) := by decide +kernel
theorem dX3_wantedAt_15 : decode cX3_wantedAt 15 = .ok (.aload_n 0, 1) := by decide +kernel
theorem dX3_wantedAt_16 : decode cX3_wantedAt 16 = .ok (.getfield 40, 3) := by decide +kernel
theorem dX3_wantedAt_19 : decode cX3_wantedAt 19 = .ok (.iload_n 1, 1) := by decide +kernel
theorem dX3_wantedAt_20 : decode cX3_wantedAt 20 = .ok (.iconst 5, 1) := by decide +kernel
theorem dX3_wantedAt_21 : decode cX3_wantedAt 21 = .ok (.imul, 1) := by decide +kernel
theorem dX3_wantedAt_22 : decode cX3_wantedAt 22 = .ok (.iconst 4, 1) := by decide +kernel
theorem dX3_wantedAt_23 : decode cX3_wantedAt 23 = .ok (.iadd, 1) := by decide +kernel
theorem dX3_wantedAt_24 : decode cX3_wantedAt 24 = .ok (.iaload, 1) := by decide +kernel
theorem dX3_wantedAt_25 : decode cX3_wantedAt 25 = .ok (.if_icmp .gt 7, 3) := by decide +kernel
theorem dX3_wantedAt_28 : decode cX3_wantedAt 28 = .ok (.iconst 1, 1) := by decide +kernel
theorem dX3_wantedAt_29 : decode cX3_wantedAt 29 = .ok (.goto 4, 3) := by decide +kernel
theorem dX3_wantedAt_32 : decode cX3_wantedAt 32 = .ok (.iconst 0, 1) := by decide +kernel
theorem dX3_wantedAt_33 : decode cX3_wantedAt 33 = .ok (.ireturn, 1) := by decide +kernel
theorem dX3_wantsAt_0 : decode cX3_wantsAt 0 = .ok (.iconst 0, 1) := by decide +kernel
theorem dX3_wantsAt_1 : decode cX3_wantsAt 1 = .ok (.istore_n 2, 1) := by decide +kernel
theorem dX3_wantsAt_2 : decode cX3_wantsAt 2 = .ok (.iconst 0, 1) := by decide +kernel
theorem dX3_wantsAt_3 : decode cX3_wantsAt 3 = .ok (.istore_n 3, 1) := by decide +kernel
theorem dX3_wantsAt_4 : decode cX3_wantsAt 4 = .ok (.iload_n 3, 1) := by decide +kernel
theorem dX3_wantsAt_5 : decode cX3_wantsAt 5 = .ok (.aload_n 0, 1) := by decide +kernel
theorem dX3_wantsAt_6 : decode cX3_wantsAt 6 = .ok (.getfield 27, 3) := by decide +kernel
theorem dX3_wantsAt_9 : decode cX3_wantsAt 9 = .ok (.if_icmp .ge 24, 3) := by decide +kernel
theorem dX3_wantsAt_12 : decode cX3_wantsAt 12 = .ok (.aload_n 0, 1) := by decide +kernel
theorem dX3_wantsAt_13 : decode cX3_wantsAt 13 = .ok (.iload_n 3, 1) := by decide +kernel
theorem dX3_wantsAt_14 : decode cX3_wantsAt 14 = .ok (.iload_n 1, 1) := by decide +kernel
theorem dX3_wantsAt_15 : decode cX3_wantsAt 15 = .ok (.invokevirtual 80, 3) := by decide +kernel
theorem dX3_wantsAt_18 : decode cX3_wantsAt 18 = .ok (.ifCond .eq 9, 3) := by decide +kernel
theorem dX3_wantsAt_21 : decode cX3_wantsAt 21 = .ok (.iload_n 2, 1) := by decide +kernel
theorem dX3_wantsAt_22 : decode cX3_wantsAt 22 = .ok (.iconst 1, 1) := by decide +kernel
theorem dX3_wantsAt_23 : decode cX3_wantsAt 23 = .ok (.iload_n 3, 1) := by decide +kernel
theorem dX3_wantsAt_24 : decode cX3_wantsAt 24 = .ok (.ishl, 1) := by decide +kernel
theorem dX3_wantsAt_25 : decode cX3_wantsAt 25 = .ok (.ior, 1) := by decide +kernel
theorem dX3_wantsAt_26 : decode cX3_wantsAt 26 = .ok (.istore_n 2, 1) := by decide +kernel
theorem dX3_wantsAt_27 : decode cX3_wantsAt 27 = .ok (.iinc 3 1, 3) := by decide +kernel
theorem dX3_wantsAt_30 : decode cX3_wantsAt 30 = .ok (.goto (-26), 3) := by decide +kernel
theorem dX3_wantsAt_33 : decode cX3_wantsAt 33 = .ok (.iload_n 2, 1) := by decide +kernel
theorem dX3_wantsAt_34 : decode cX3_wantsAt 34 = .ok (.ireturn, 1) := by decide +kernel
theorem dX3_notRight_0 : decode cX3_notRight 0 = .ok (.iconst 0, 1) := by decide +kernel
theorem dX3_notRight_1 : decode cX3_notRight 1 = .ok (.istore_n 3, 1) := by decide +kernel
theorem dX3_notRight_2 : decode cX3_notRight 2 = .ok (.iconst 0, 1) := by decide +kernel
theorem dX3_notRight_3 : decode cX3_notRight 3 = .ok (.istore 4, 2) := by decide +kernel
theorem dX3_notRight_5 : decode cX3_notRight 5 = .ok (.iload 4, 2) := by decide +kernel
theorem dX3_notRight_7 : decode cX3_notRight 7 = .ok (.aload_n 0, 1) := by decide +kernel
theorem dX3_notRight_8 : decode cX3_notRight 8 = .ok (.getfield 27, 3) := by decide +kernel
theorem dX3_notRight_11 : decode cX3_notRight 11 = .ok (.if_icmp .ge 85, 3) := by decide +kernel
theorem dX3_notRight_14 : decode cX3_notRight 14 = .ok (.aload_n 0, 1) := by decide +kernel
theorem dX3_notRight_15 : decode cX3_notRight 15 = .ok (.getfield 40, 3) := by decide +kernel
theorem dX3_notRight_18 : decode cX3_notRight 18 = .ok (.iload 4, 2) := by decide +kernel
theorem dX3_notRight_20 : decode cX3_notRight 20 = .ok (.iconst 5, 1) := by decide +kernel
theorem dX3_notRight_21 : decode cX3_notRight 21 = .ok (.imul, 1) := by decide +kernel
theorem dX3_notRight_22 : decode cX3_notRight 22 = .ok (.iaload, 1) := by decide +kernel
theorem dX3_notRight_23 : decode cX3_notRight 23 = .ok (.istore 5, 2) := by decide +kernel
theorem dX3_notRight_25 : decode cX3_notRight 25 = .ok (.aload_n 2, 1) := by decide +kernel
theorem dX3_notRight_26 : decode cX3_notRight 26 = .ok (.iload 5, 2) := by decide +kernel
theorem dX3_notRight_28 : decode cX3_notRight 28 = .ok (.iaload, 1) := by decide +kernel
theorem dX3_notRight_29 : decode cX3_notRight 29 = .ok (.aload_n 0, 1) := by decide +kernel
theorem dX3_notRight_30 : decode cX3_notRight 30 = .ok (.getfield 40, 3) := by decide +kernel
theorem dX3_notRight_33 : decode cX3_notRight 33 = .ok (.iload 4, 2) := by decide +kernel
theorem dX3_notRight_35 : decode cX3_notRight 35 = .ok (.iconst 5, 1) := by decide +kernel
theorem dX3_notRight_36 : decode cX3_notRight 36 = .ok (.imul, 1) := by decide +kernel
theorem dX3_notRight_37 : decode cX3_notRight 37 = .ok (.iconst 1, 1) := by decide +kernel
theorem dX3_notRight_38 : decode cX3_notRight 38 = .ok (.iadd, 1) := by decide +kernel
theorem dX3_notRight_39 : decode cX3_notRight 39 = .ok (.iaload, 1) := by decide +kernel
theorem dX3_notRight_40 : decode cX3_notRight 40 = .ok (.if_icmp .lt 25, 3) := by decide +kernel
theorem dX3_notRight_43 : decode cX3_notRight 43 = .ok (.aload_n 2, 1) := by decide +kernel
theorem dX3_notRight_44 : decode cX3_notRight 44 = .ok (.iload 5, 2) := by decide +kernel
theorem dX3_notRight_46 : decode cX3_notRight 46 = .ok (.iaload, 1) := by decide +kernel
theorem dX3_notRight_47 : decode cX3_notRight 47 = .ok (.aload_n 0, 1) := by decide +kernel
theorem dX3_notRight_48 : decode cX3_notRight 48 = .ok (.getfield 40, 3) := by decide +kernel
theorem dX3_notRight_51 : decode cX3_notRight 51 = .ok (.iload 4, 2) := by decide +kernel
theorem dX3_notRight_53 : decode cX3_notRight 53 = .ok (.iconst 5, 1) := by decide +kernel
theorem dX3_notRight_54 : decode cX3_notRight 54 = .ok (.imul, 1) := by decide +kernel
theorem dX3_notRight_55 : decode cX3_notRight 55 = .ok (.iconst 2, 1) := by decide +kernel
theorem dX3_notRight_56 : decode cX3_notRight 56 = .ok (.iadd, 1) := by decide +kernel
theorem dX3_notRight_57 : decode cX3_notRight 57 = .ok (.iaload, 1) := by decide +kernel
theorem dX3_notRight_58 : decode cX3_notRight 58 = .ok (.if_icmp .gt 7, 3) := by decide +kernel
theorem dX3_notRight_61 : decode cX3_notRight 61 = .ok (.iconst 1, 1) := by decide +kernel
theorem dX3_notRight_62 : decode cX3_notRight 62 = .ok (.goto 4, 3) := by decide +kernel
theorem dX3_notRight_65 : decode cX3_notRight 65 = .ok (.iconst 0, 1) := by decide +kernel
theorem dX3_notRight_66 : decode cX3_notRight 66 = .ok (.istore 6, 2) := by decide +kernel
theorem dX3_notRight_68 : decode cX3_notRight 68 = .ok (.iload 6, 2) := by decide +kernel
theorem dX3_notRight_70 : decode cX3_notRight 70 = .ok (.ifCond .ne 20, 3) := by decide +kernel
theorem dX3_notRight_73 : decode cX3_notRight 73 = .ok (.aload_n 0, 1) := by decide +kernel
theorem dX3_notRight_74 : decode cX3_notRight 74 = .ok (.iload 4, 2) := by decide +kernel
theorem dX3_notRight_76 : decode cX3_notRight 76 = .ok (.iload_n 1, 1) := by decide +kernel
theorem dX3_notRight_77 : decode cX3_notRight 77 = .ok (.invokevirtual 80, 3) := by decide +kernel
theorem dX3_notRight_80 : decode cX3_notRight 80 = .ok (.ifCond .eq 10, 3) := by decide +kernel
theorem dX3_notRight_83 : decode cX3_notRight 83 = .ok (.iload_n 3, 1) := by decide +kernel
theorem dX3_notRight_84 : decode cX3_notRight 84 = .ok (.iconst 1, 1) := by decide +kernel
theorem dX3_notRight_85 : decode cX3_notRight 85 = .ok (.iload 5, 2) := by decide +kernel
theorem dX3_notRight_87 : decode cX3_notRight 87 = .ok (.ishl, 1) := by decide +kernel
theorem dX3_notRight_88 : decode cX3_notRight 88 = .ok (.ior, 1) := by decide +kernel
theorem dX3_notRight_89 : decode cX3_notRight 89 = .ok (.istore_n 3, 1) := by decide +kernel
theorem dX3_notRight_90 : decode cX3_notRight 90 = .ok (.iinc 4 1, 3) := by decide +kernel
theorem dX3_notRight_93 : decode cX3_notRight 93 = .ok (.goto (-88), 3) := by decide +kernel
theorem dX3_notRight_96 : decode cX3_notRight 96 = .ok (.iload_n 3, 1) := by decide +kernel
theorem dX3_notRight_97 : decode cX3_notRight 97 = .ok (.ireturn, 1) := by decide +kernel
theorem dX3_needy_0 : decode cX3_needy 0 = .ok (.iconst 0, 1) := by decide +kernel
theorem dX3_needy_1 : decode cX3_needy 1 = .ok (.istore_n 2, 1) := by decide +kernel
theorem dX3_needy_2 : decode cX3_needy 2 = .ok (.iconst 0, 1) := by decide +kernel
theorem dX3_needy_3 : decode cX3_needy 3 = .ok (.istore_n 3, 1) := by decide +kernel
theorem dX3_needy_4 : decode cX3_needy 4 = .ok (.iload_n 3, 1) := by decide +kernel
theorem dX3_needy_5 : decode cX3_needy 5 = .ok (.aload_n 0, 1) := by decide +kernel
theorem dX3_needy_6 : decode cX3_needy 6 = .ok (.getfield 27, 3) := by decide +kernel
theorem dX3_needy_9 : decode cX3_needy 9 = .ok (.if_icmp .ge 44, 3) := by decide +kernel
theorem dX3_needy_12 : decode cX3_needy 12 = .ok (.aload_n 0, 1) := by decide +kernel
theorem dX3_needy_13 : decode cX3_needy 13 = .ok (.getfield 40, 3) := by decide +kernel
theorem dX3_needy_16 : decode cX3_needy 16 = .ok (.iload_n 3, 1) := by decide +kernel
theorem dX3_needy_17 : decode cX3_needy 17 = .ok (.iconst 5, 1) := by decide +kernel
theorem dX3_needy_18 : decode cX3_needy 18 = .ok (.imul, 1) := by decide +kernel
theorem dX3_needy_19 : decode cX3_needy 19 = .ok (.iconst 1, 1) := by decide +kernel
theorem dX3_needy_20 : decode cX3_needy 20 = .ok (.iadd, 1) := by decide +kernel
theorem dX3_needy_21 : decode cX3_needy 21 = .ok (.iaload, 1) := by decide +kernel
theorem dX3_needy_22 : decode cX3_needy 22 = .ok (.ifCond .le 25, 3) := by decide +kernel
theorem dX3_needy_25 : decode cX3_needy 25 = .ok (.aload_n 0, 1) := by decide +kernel
theorem dX3_needy_26 : decode cX3_needy 26 = .ok (.iload_n 3, 1) := by decide +kernel
theorem dX3_needy_27 : decode cX3_needy 27 = .ok (.iload_n 1, 1) := by decide +kernel
theorem dX3_needy_28 : decode cX3_needy 28 = .ok (.invokevirtual 80, 3) := by decide +kernel
theorem dX3_needy_31 : decode cX3_needy 31 = .ok (.ifCond .eq 16, 3) := by decide +kernel
theorem dX3_needy_34 : decode cX3_needy 34 = .ok (.iload_n 2, 1) := by decide +kernel
theorem dX3_needy_35 : decode cX3_needy 35 = .ok (.iconst 1, 1) := by decide +kernel
theorem dX3_needy_36 : decode cX3_needy 36 = .ok (.aload_n 0, 1) := by decide +kernel
theorem dX3_needy_37 : decode cX3_needy 37 = .ok (.getfield 40, 3) := by decide +kernel
theorem dX3_needy_40 : decode cX3_needy 40 = .ok (.iload_n 3, 1) := by decide +kernel
theorem dX3_needy_41 : decode cX3_needy 41 = .ok (.iconst 5, 1) := by decide +kernel
theorem dX3_needy_42 : decode cX3_needy 42 = .ok (.imul, 1) := by decide +kernel
theorem dX3_needy_43 : decode cX3_needy 43 = .ok (.iaload, 1) := by decide +kernel
theorem dX3_needy_44 : decode cX3_needy 44 = .ok (.ishl, 1) := by decide +kernel
theorem dX3_needy_45 : decode cX3_needy 45 = .ok (.ior, 1) := by decide +kernel
theorem dX3_needy_46 : decode cX3_needy 46 = .ok (.istore_n 2, 1) := by decide +kernel
theorem dX3_needy_47 : decode cX3_needy 47 = .ok (.iinc 3 1, 3) := by decide +kernel
theorem dX3_needy_50 : decode cX3_needy 50 = .ok (.goto (-46), 3) := by decide +kernel
theorem dX3_needy_53 : decode cX3_needy 53 = .ok (.iload_n 2, 1) := by decide +kernel
theorem dX3_needy_54 : decode cX3_needy 54 = .ok (.ireturn, 1) := by decide +kernel
theorem dX3_shineOf_0 : decode cX3_shineOf 0 = .ok (.iconst 0, 1) := by decide +kernel
theorem dX3_shineOf_1 : decode cX3_shineOf 1 = .ok (.istore 4, 2) := by decide +kernel
theorem dX3_shineOf_3 : decode cX3_shineOf 3 = .ok (.iload 4, 2) := by decide +kernel
theorem dX3_shineOf_5 : decode cX3_shineOf 5 = .ok (.aload_n 0, 1) := by decide +kernel
theorem dX3_shineOf_6 : decode cX3_shineOf 6 = .ok (.getfield 21, 3) := by decide +kernel
theorem dX3_shineOf_9 : decode cX3_shineOf 9 = .ok (.if_icmp .ge 104, 3) := by decide +kernel
theorem dX3_shineOf_12 : decode cX3_shineOf 12 = .ok (.aload_n 0, 1) := by decide +kernel
theorem dX3_shineOf_13 : decode cX3_shineOf 13 = .ok (.getfield 33, 3) := by decide +kernel
theorem dX3_shineOf_16 : decode cX3_shineOf 16 = .ok (.iload 4, 2) := by decide +kernel
theorem dX3_shineOf_18 : decode cX3_shineOf 18 = .ok (.iconst 4, 1) := by decide +kernel
theorem dX3_shineOf_19 : decode cX3_shineOf 19 = .ok (.imul, 1) := by decide +kernel
theorem dX3_shineOf_20 : decode cX3_shineOf 20 = .ok (.iaload, 1) := by decide +kernel
theorem dX3_shineOf_21 : decode cX3_shineOf 21 = .ok (.istore 5, 2) := by decide +kernel
theorem dX3_shineOf_23 : decode cX3_shineOf 23 = .ok (.aload_n 0, 1) := by decide +kernel
theorem dX3_shineOf_24 : decode cX3_shineOf 24 = .ok (.getfield 33, 3) := by decide +kernel
theorem dX3_shineOf_27 : decode cX3_shineOf 27 = .ok (.iload 4, 2) := by decide +kernel
theorem dX3_shineOf_29 : decode cX3_shineOf 29 = .ok (.iconst 4, 1) := by decide +kernel
theorem dX3_shineOf_30 : decode cX3_shineOf 30 = .ok (.imul, 1) := by decide +kernel
theorem dX3_shineOf_31 : decode cX3_shineOf 31 = .ok (.iconst 1, 1) := by decide +kernel
theorem dX3_shineOf_32 : decode cX3_shineOf 32 = .ok (.iadd, 1) := by decide +kernel
theorem dX3_shineOf_33 : decode cX3_shineOf 33 = .ok (.iaload, 1) := by decide +kernel
theorem dX3_shineOf_34 : decode cX3_shineOf 34 = .ok (.istore 6, 2) := by decide +kernel
theorem dX3_shineOf_36 : decode cX3_shineOf 36 = .ok (.aload_n 0, 1) := by decide +kernel
theorem dX3_shineOf_37 : decode cX3_shineOf 37 = .ok (.iload_n 1, 1) := by decide +kernel
theorem dX3_shineOf_38 : decode cX3_shineOf 38 = .ok (.invokevirtual 76, 3) := by decide +kernel
theorem dX3_shineOf_41 : decode cX3_shineOf 41 = .ok (.aload_n 0, 1) := by decide +kernel
theorem dX3_shineOf_42 : decode cX3_shineOf 42 = .ok (.getfield 33, 3) := by decide +kernel
theorem dX3_shineOf_45 : decode cX3_shineOf 45 = .ok (.iload 4, 2) := by decide +kernel
theorem dX3_shineOf_47 : decode cX3_shineOf 47 = .ok (.iconst 4, 1) := by decide +kernel
theorem dX3_shineOf_48 : decode cX3_shineOf 48 = .ok (.imul, 1) := by decide +kernel
theorem dX3_shineOf_49 : decode cX3_shineOf 49 = .ok (.iconst 2, 1) := by decide +kernel
theorem dX3_shineOf_50 : decode cX3_shineOf 50 = .ok (.iadd, 1) := by decide +kernel
theorem dX3_shineOf_51 : decode cX3_shineOf 51 = .ok (.iaload, 1) := by decide +kernel
theorem dX3_shineOf_52 : decode cX3_shineOf 52 = .ok (.imul, 1) := by decide +kernel
theorem dX3_shineOf_53 : decode cX3_shineOf 53 = .ok (.bipush 100, 2) := by decide +kernel
theorem dX3_shineOf_55 : decode cX3_shineOf 55 = .ok (.idiv, 1) := by decide +kernel
theorem dX3_shineOf_56 : decode cX3_shineOf 56 = .ok (.istore 7, 2) := by decide +kernel
theorem dX3_shineOf_58 : decode cX3_shineOf 58 = .ok (.aload_n 2, 1) := by decide +kernel
theorem dX3_shineOf_59 : decode cX3_shineOf 59 = .ok (.iload_n 3, 1) := by decide +kernel
theorem dX3_shineOf_60 : decode cX3_shineOf 60 = .ok (.iload 5, 2) := by decide +kernel
theorem dX3_shineOf_62 : decode cX3_shineOf 62 = .ok (.bipush 16, 2) := by decide +kernel
theorem dX3_shineOf_64 : decode cX3_shineOf 64 = .ok (.imul, 1) := by decide +kernel
theorem dX3_shineOf_65 : decode cX3_shineOf 65 = .ok (.iadd, 1) := by decide +kernel
theorem dX3_shineOf_66 : decode cX3_shineOf 66 = .ok (.iload 6, 2) := by decide +kernel
theorem dX3_shineOf_68 : decode cX3_shineOf 68 = .ok (.iadd, 1) := by decide +kernel
theorem dX3_shineOf_69 : decode cX3_shineOf 69 = .ok (.dup2, 1) := by decide +kernel
theorem dX3_shineOf_70 : decode cX3_shineOf 70 = .ok (.iaload, 1) := by decide +kernel
theorem dX3_shineOf_71 : decode cX3_shineOf 71 = .ok (.iload 7, 2) := by decide +kernel
theorem dX3_shineOf_73 : decode cX3_shineOf 73 = .ok (.iadd, 1) := by decide +kernel
theorem dX3_shineOf_74 : decode cX3_shineOf 74 = .ok (.iastore, 1) := by decide +kernel
theorem dX3_shineOf_75 : decode cX3_shineOf 75 = .ok (.aload_n 0, 1) := by decide +kernel
theorem dX3_shineOf_76 : decode cX3_shineOf 76 = .ok (.getfield 33, 3) := by decide +kernel
theorem dX3_shineOf_79 : decode cX3_shineOf 79 = .ok (.iload 4, 2) := by decide +kernel
theorem dX3_shineOf_81 : decode cX3_shineOf 81 = .ok (.iconst 4, 1) := by decide +kernel
theorem dX3_shineOf_82 : decode cX3_shineOf 82 = .ok (.imul, 1) := by decide +kernel
theorem dX3_shineOf_83 : decode cX3_shineOf 83 = .ok (.iconst 3, 1) := by decide +kernel
theorem dX3_shineOf_84 : decode cX3_shineOf 84 = .ok (.iadd, 1) := by decide +kernel
theorem dX3_shineOf_85 : decode cX3_shineOf 85 = .ok (.iaload, 1) := by decide +kernel
theorem dX3_shineOf_86 : decode cX3_shineOf 86 = .ok (.iconst 1, 1) := by decide +kernel
theorem dX3_shineOf_87 : decode cX3_shineOf 87 = .ok (.if_icmp .ne 20, 3) := by decide +kernel
theorem dX3_shineOf_90 : decode cX3_shineOf 90 = .ok (.aload_n 2, 1) := by decide +kernel
theorem dX3_shineOf_91 : decode cX3_shineOf 91 = .ok (.iload_n 3, 1) := by decide +kernel
theorem dX3_shineOf_92 : decode cX3_shineOf 92 = .ok (.iload 6, 2) := by decide +kernel
theorem dX3_shineOf_94 : decode cX3_shineOf 94 = .ok (.bipush 16, 2) := by decide +kernel
theorem dX3_shineOf_96 : decode cX3_shineOf 96 = .ok (.imul, 1) := by decide +kernel
theorem dX3_shineOf_97 : decode cX3_shineOf 97 = .ok (.iadd, 1) := by decide +kernel
theorem dX3_shineOf_98 : decode cX3_shineOf 98 = .ok (.iload 5, 2) := by decide +kernel
theorem dX3_shineOf_100 : decode cX3_shineOf 100 = .ok (.iadd, 1) := by decide +kernel
theorem dX3_shineOf_101 : decode cX3_shineOf 101 = .ok (.dup2, 1) := by decide +kernel
theorem dX3_shineOf_102 : decode cX3_shineOf 102 = .ok (.iaload, 1) := by decide +kernel
theorem dX3_shineOf_103 : decode cX3_shineOf 103 = .ok (.iload 7, 2) := by decide +kernel
theorem dX3_shineOf_105 : decode cX3_shineOf 105 = .ok (.iadd, 1) := by decide +kernel
theorem dX3_shineOf_106 : decode cX3_shineOf 106 = .ok (.iastore, 1) := by decide +kernel
theorem dX3_shineOf_107 : decode cX3_shineOf 107 = .ok (.iinc 4 1, 3) := by decide +kernel
theorem dX3_shineOf_110 : decode cX3_shineOf 110 = .ok (.goto (-107), 3) := by decide +kernel
theorem dX3_shineOf_113 : decode cX3_shineOf 113 = .ok (.return_, 1) := by decide +kernel
theorem dX4_init_0 : decode cX4_init 0 = .ok (.aload_n 0, 1) := by decide +kernel
theorem dX4_init_1 : decode cX4_init 1 = .ok (.invokespecial 3, 3) := by decide +kernel
theorem dX4_init_4 : decode cX4_init 4 = .ok (.aload_n 0, 1) := by decide +kernel
theorem dX4_init_5 : decode cX4_init 5 = .ok (.new 9, 3) := by decide +kernel
theorem dX4_init_8 : decode cX4_init 8 = .ok (.dup, 1) := by decide +kernel
theorem dX4_init_9 : decode cX4_init 9 = .ok (.invokespecial 11, 3) := by decide +kernel
theorem dX4_init_12 : decode cX4_init 12 = .ok (.putfield 12, 3) := by decide +kernel
theorem dX4_init_15 : decode cX4_init 15 = .ok (.aload_n 0, 1) := by decide +kernel
theorem dX4_init_16 : decode cX4_init 16 = .ok (.sipush 256, 3) := by decide +kernel
theorem dX4_init_19 : decode cX4_init 19 = .ok (.newarray .int, 2) := by decide +kernel
theorem dX4_init_21 : decode cX4_init 21 = .ok (.putfield 18, 3) := by decide +kernel
theorem dX4_init_24 : decode cX4_init 24 = .ok (.aload_n 0, 1) := by decide +kernel
theorem dX4_init_25 : decode cX4_init 25 = .ok (.sipush 272, 3) := by decide +kernel
theorem dX4_init_28 : decode cX4_init 28 = .ok (.newarray .int, 2) := by decide +kernel
theorem dX4_init_30 : decode cX4_init 30 = .ok (.putfield 22, 3) := by decide +kernel
theorem dX4_init_33 : decode cX4_init 33 = .ok (.aload_n 0, 1) := by decide +kernel
theorem dX4_init_34 : decode cX4_init 34 = .ok (.bipush 17, 2) := by decide +kernel
theorem dX4_init_36 : decode cX4_init 36 = .ok (.newarray .int, 2) := by decide +kernel
theorem dX4_init_38 : decode cX4_init 38 = .ok (.putfield 25, 3) := by decide +kernel
theorem dX4_init_41 : decode cX4_init 41 = .ok (.aload_n 0, 1) := by decide +kernel
theorem dX4_init_42 : decode cX4_init 42 = .ok (.bipush 24, 2) := by decide +kernel
theorem dX4_init_44 : decode cX4_init 44 = .ok (.newarray .int, 2) := by decide +kernel
theorem dX4_init_46 : decode cX4_init 46 = .ok (.putfield 28, 3) := by decide +kernel
theorem dX4_init_49 : decode cX4_init 49 = .ok (.aload_n 0, 1) := by decide +kernel
theorem dX4_init_50 : decode cX4_init 50 = .ok (.bipush 24, 2) := by decide +kernel
theorem dX4_init_52 : decode cX4_init 52 = .ok (.newarray .int, 2) := by decide +kernel
theorem dX4_init_54 : decode cX4_init 54 = .ok (.putfield 31, 3) := by decide +kernel
theorem dX4_init_57 : decode cX4_init 57 = .ok (.aload_n 0, 1) := by decide +kernel
theorem dX4_init_58 : decode cX4_init 58 = .ok (.iconst (-1), 1) := by decide +kernel
theorem dX4_init_59 : decode cX4_init 59 = .ok (.putfield 34, 3) := by decide +kernel
theorem dX4_init_62 : decode cX4_init 62 = .ok (.aload_n 0, 1) := by decide +kernel
theorem dX4_init_63 : decode cX4_init 63 = .ok (.iconst 0, 1) := by decide +kernel
theorem dX4_init_64 : decode cX4_init 64 = .ok (.putfield 38, 3) := by decide +kernel
theorem dX4_init_67 : decode cX4_init 67 = .ok (.return_, 1) := by decide +kernel
theorem dX4_lampsOfDay_0 : decode cX4_lampsOfDay 0 = .ok (.iconst 0, 1) := by decide +kernel
theorem dX4_lampsOfDay_1 : decode cX4_lampsOfDay 1 = .ok (.istore_n 3, 1) := by decide +kernel
theorem dX4_lampsOfDay_2 : decode cX4_lampsOfDay 2 = .ok (.iconst 0, 1) := by decide +kernel
theorem dX4_lampsOfDay_3 : decode cX4_lampsOfDay 3 = .ok (.istore 4, 2) := by decide +kernel
theorem dX4_lampsOfDay_5 : decode cX4_lampsOfDay 5 = .ok (.iload 4, 2) := by decide +kernel
theorem dX4_lampsOfDay_7 : decode cX4_lampsOfDay 7 = .ok (.bipush 24, 2) := by decide +kernel
theorem dX4_lampsOfDay_9 : decode cX4_lampsOfDay 9 = .ok (.if_icmp .ge 86, 3) := by decide +kernel
theorem dX4_lampsOfDay_12 : decode cX4_lampsOfDay 12 = .ok (.aload_n 0, 1) := by decide +kernel
theorem dX4_lampsOfDay_13 : decode cX4_lampsOfDay 13 = .ok (.getfield 28, 3) := by decide +kernel
theorem dX4_lampsOfDay_16 : decode cX4_lampsOfDay 16 = .ok (.iload 4, 2) := by decide +kernel
theorem dX4_lampsOfDay_18 : decode cX4_lampsOfDay 18 = .ok (.aload_n 1, 1) := by decide +kernel
theorem dX4_lampsOfDay_19 : decode cX4_lampsOfDay 19 = .ok (.iload 4, 2) := by decide +kernel
theorem dX4_lampsOfDay_21 : decode cX4_lampsOfDay 21 = .ok (.invokevirtual 41, 3) := by decide +kernel
theorem dX4_lampsOfDay_24 : decode cX4_lampsOfDay 24 = .ok (.iastore, 1) := by decide +kernel
theorem dX4_lampsOfDay_25 : decode cX4_lampsOfDay 25 = .ok (.aload_n 0, 1) := by decide +kernel
theorem dX4_lampsOfDay_26 : decode cX4_lampsOfDay 26 = .ok (.getfield 31, 3) := by decide +kernel
theorem dX4_lampsOfDay_29 : decode cX4_lampsOfDay 29 = .ok (.iload 4, 2) := by decide +kernel
theorem dX4_lampsOfDay_31 : decode cX4_lampsOfDay 31 = .ok (.aload_n 0, 1) := by decide +kernel
theorem dX4_lampsOfDay_32 : decode cX4_lampsOfDay 32 = .ok (.iload 4, 2) := by decide +kernel
theorem dX4_lampsOfDay_34 : decode cX4_lampsOfDay 34 = .ok (.invokevirtual 47, 3) := by decide +kernel
theorem dX4_lampsOfDay_37 : decode cX4_lampsOfDay 37 = .ok (.iastore, 1) := by decide +kernel
theorem dX4_lampsOfDay_38 : decode cX4_lampsOfDay 38 = .ok (.aload_n 0, 1) := by decide +kernel
theorem dX4_lampsOfDay_39 : decode cX4_lampsOfDay 39 = .ok (.getfield 31, 3) := by decide +kernel
theorem dX4_lampsOfDay_42 : decode cX4_lampsOfDay 42 = .ok (.iload 4, 2) := by decide +kernel
theorem dX4_lampsOfDay_44 : decode cX4_lampsOfDay 44 = .ok (.iaload, 1) := by decide +kernel
theorem dX4_lampsOfDay_45 : decode cX4_lampsOfDay 45 = .ok (.iconst (-1), 1) := by decide +kernel
theorem dX4_lampsOfDay_46 : decode cX4_lampsOfDay 46 = .ok (.if_icmp .ne 33, 3) := by decide +kernel
theorem dX4_lampsOfDay_49 : decode cX4_lampsOfDay 49 = .ok (.aload_n 0, 1) := by decide +kernel
theorem dX4_lampsOfDay_50 : decode cX4_lampsOfDay 50 = .ok (.aload_n 1, 1) := by decide +kernel
theorem dX4_lampsOfDay_51 : decode cX4_lampsOfDay 51 = .ok (.iload_n 2, 1) := by decide +kernel
theorem dX4_lampsOfDay_52 : decode cX4_lampsOfDay 52 = .ok (.iload 4, 2) := by decide +kernel
theorem dX4_lampsOfDay_54 : decode cX4_lampsOfDay 54 = .ok (.invokevirtual 50, 3) := by decide +kernel
theorem dX4_lampsOfDay_57 : decode cX4_lampsOfDay 57 = .ok (.istore 5, 2) := by decide +kernel
theorem dX4_lampsOfDay_59 : decode cX4_lampsOfDay 59 = .ok (.iload 5, 2) := by decide +kernel
theorem dX4_lampsOfDay_61 : decode cX4_lampsOfDay 61 = .ok (.iconst (-1), 1) := by decide +kernel
theorem dX4_lampsOfDay_62 : decode cX4_lampsOfDay 62 = .ok (.if_icmp .ne 5, 3) := by decide +kernel
theorem dX4_lampsOfDay_65 : decode cX4_lampsOfDay 65 = .ok (.iconst (-1), 1) := by decide +kernel
theorem dX4_lampsOfDay_66 : decode cX4_lampsOfDay 66 = .ok (.ireturn, 1) := by decide +kernel
theorem dX4_lampsOfDay_67 : decode cX4_lampsOfDay 67 = .ok (.aload_n 0, 1) := by decide +kernel
theorem dX4_lampsOfDay_68 : decode cX4_lampsOfDay 68 = .ok (.getfield 31, 3) := by decide +kernel
theorem dX4_lampsOfDay_71 : decode cX4_lampsOfDay 71 = .ok (.iload 4, 2) := by decide +kernel
theorem dX4_lampsOfDay_73 : decode cX4_lampsOfDay 73 = .ok (.iload 5, 2) := by decide +kernel
theorem dX4_lampsOfDay_75 : decode cX4_lampsOfDay 75 = .ok (.invokestatic 54, 3) := by decide +kernel
theorem dX4_lampsOfDay_78 : decode cX4_lampsOfDay 78 = .ok (.iastore, 1) := by decide +kernel
theorem dX4_lampsOfDay_79 : decode cX4_lampsOfDay 79 = .ok (.iload_n 3, 1) := by decide +kernel
theorem dX4_lampsOfDay_80 : decode cX4_lampsOfDay 80 = .ok (.aload_n 0, 1) := by decide +kernel
theorem dX4_lampsOfDay_81 : decode cX4_lampsOfDay 81 = .ok (.getfield 31, 3) := by decide +kernel
theorem dX4_lampsOfDay_84 : decode cX4_lampsOfDay 84 = .ok (.iload 4, 2) := by decide +kernel
theorem dX4_lampsOfDay_86 : decode cX4_lampsOfDay 86 = .ok (.iaload, 1) := by decide +kernel
theorem dX4_lampsOfDay_87 : decode cX4_lampsOfDay 87 = .ok (.iadd, 1) := by decide +kernel
theorem dX4_lampsOfDay_88 : decode cX4_lampsOfDay 88 = .ok (.istore_n 3, 1) := by decide +kernel
theorem dX4_lampsOfDay_89 : decode cX4_lampsOfDay 89 = .ok (.iinc 4 1, 3) := by decide +kernel
theorem dX4_lampsOfDay_92 : decode cX4_lampsOfDay 92 = .ok (.goto (-87), 3) := by decide +kernel
theorem dX4_lampsOfDay_95 : decode cX4_lampsOfDay 95 = .ok (.iload_n 3, 1) := by decide +kernel
theorem dX4_lampsOfDay_96 : decode cX4_lampsOfDay 96 = .ok (.ireturn, 1) := by decide +kernel
theorem dX4_lampsAsBefore_0 : decode cX4_lampsAsBefore 0 = .ok (.iconst 0, 1) := by decide +kernel
theorem dX4_lampsAsBefore_1 : decode cX4_lampsAsBefore 1 = .ok (.istore_n 2, 1) := by decide +kernel
theorem dX4_lampsAsBefore_2 : decode cX4_lampsAsBefore 2 = .ok (.iload_n 2, 1) := by decide +kernel
theorem dX4_lampsAsBefore_3 : decode cX4_lampsAsBefore 3 = .ok (.iload_n 1, 1) := by decide +kernel
theorem dX4_lampsAsBefore_4 : decode cX4_lampsAsBefore 4 = .ok (.if_icmp .ge 31, 3) := by decide +kernel
theorem dX4_lampsAsBefore_7 : decode cX4_lampsAsBefore 7 = .ok (.aload_n 0, 1) := by decide +kernel
theorem dX4_lampsAsBefore_8 : decode cX4_lampsAsBefore 8 = .ok (.getfield 28, 3) := by decide +kernel
theorem dX4_lampsAsBefore_11 : decode cX4_lampsAsBefore 11 = .ok (.iload_n 2, 1) := by decide +kernel
theorem dX4_lampsAsBefore_12 : decode cX4_lampsAsBefore 12 = .ok (.iaload, 1) := by decide +kernel
theorem dX4_lampsAsBefore_13 : decode cX4_lampsAsBefore 13 = .ok (.aload_n 0, 1) := by decide +kernel
theorem dX4_lampsAsBefore_14 : decode cX4_lampsAsBefore 14 = .ok (.getfield 28, 3) := by decide +kernel
theorem dX4_lampsAsBefore_17 : decode cX4_lampsAsBefore 17 = .ok (.iload_n 1, 1) := by decide +kernel
theorem dX4_lampsAsBefore_18 : decode cX4_lampsAsBefore 18 = .ok (.iaload, 1) := by decide +kernel
theorem dX4_lampsAsBefore_19 : decode cX4_lampsAsBefore 19 = .ok (.if_icmp .ne 10, 3) := by decide +kernel
theorem dX4_lampsAsBefore_22 : decode cX4_lampsAsBefore 22 = .ok (.aload_n 0, 1) := by decide +kernel
theorem dX4_lampsAsBefore_23 : decode cX4_lampsAsBefore 23 = .ok (.getfield 31, 3) := by decide +kernel
theorem dX4_lampsAsBefore_26 : decode cX4_lampsAsBefore 26 = .ok (.iload_n 2, 1) := by decide +kernel
theorem dX4_lampsAsBefore_27 : decode cX4_lampsAsBefore 27 = .ok (.iaload, 1) := by decide +kernel
theorem dX4_lampsAsBefore_28 : decode cX4_lampsAsBefore 28 = .ok (.ireturn, 1) := by decide +kernel
theorem dX4_lampsAsBefore_29 : decode cX4_lampsAsBefore 29 = .ok (.iinc 2 1, 3) := by decide +kernel
theorem dX4_lampsAsBefore_32 : decode cX4_lampsAsBefore 32 = .ok (.goto (-30), 3) := by decide +kernel
theorem dX4_lampsAsBefore_35 : decode cX4_lampsAsBefore 35 = .ok (.iconst (-1), 1) := by decide +kernel
theorem dX4_lampsAsBefore_36 : decode cX4_lampsAsBefore 36 = .ok (.ireturn, 1) := by decide +kernel
theorem dX4_fewest_0 : decode cX4_fewest 0 = .ok (.aload_n 0, 1) := by decide +kernel
theorem dX4_fewest_1 : decode cX4_fewest 1 = .ok (.iconst (-1), 1) := by decide +kernel
theorem dX4_fewest_2 : decode cX4_fewest 2 = .ok (.putfield 34, 3) := by decide +kernel
theorem dX4_fewest_5 : decode cX4_fewest 5 = .ok (.aload_n 0, 1) := by decide +kernel
theorem dX4_fewest_6 : decode cX4_fewest 6 = .ok (.aload_n 1, 1) := by decide +kernel
theorem dX4_fewest_7 : decode cX4_fewest 7 = .ok (.getfield 59, 3) := by decide +kernel
theorem dX4_fewest_10 : decode cX4_fewest 10 = .ok (.iconst 1, 1) := by decide +kernel
theorem dX4_fewest_11 : decode cX4_fewest 11 = .ok (.iadd, 1) := by decide +kernel
theorem dX4_fewest_12 : decode cX4_fewest 12 = .ok (.putfield 38, 3) := by decide +kernel
theorem dX4_fewest_15 : decode cX4_fewest 15 = .ok (.aload_n 0, 1) := by decide +kernel
theorem dX4_fewest_16 : decode cX4_fewest 16 = .ok (.getfield 12, 3) := by decide +kernel
theorem dX4_fewest_19 : decode cX4_fewest 19 = .ok (.aload_n 1, 1) := by decide +kernel
theorem dX4_fewest_20 : decode cX4_fewest 20 = .ok (.iload_n 3, 1) := by decide +kernel
theorem dX4_fewest_21 : decode cX4_fewest 21 = .ok (.invokevirtual 62, 3) := by decide +kernel
theorem dX4_fewest_24 : decode cX4_fewest 24 = .ok (.ifCond .eq 53, 3) := by decide +kernel
theorem dX4_fewest_27 : decode cX4_fewest 27 = .ok (.aload_n 0, 1) := by decide +kernel
theorem dX4_fewest_28 : decode cX4_fewest 28 = .ok (.aload_n 1, 1) := by decide +kernel
theorem dX4_fewest_29 : decode cX4_fewest 29 = .ok (.iload_n 2, 1) := by decide +kernel
theorem dX4_fewest_30 : decode cX4_fewest 30 = .ok (.invokevirtual 66, 3) := by decide +kernel
theorem dX4_fewest_33 : decode cX4_fewest 33 = .ok (.aload_n 0, 1) := by decide +kernel
theorem dX4_fewest_34 : decode cX4_fewest 34 = .ok (.getfield 12, 3) := by decide +kernel
theorem dX4_fewest_37 : decode cX4_fewest 37 = .ok (.invokevirtual 70, 3) := by decide +kernel
theorem dX4_fewest_40 : decode cX4_fewest 40 = .ok (.istore 4, 2) := by decide +kernel
theorem dX4_fewest_42 : decode cX4_fewest 42 = .ok (.aload_n 0, 1) := by decide +kernel
theorem dX4_fewest_43 : decode cX4_fewest 43 = .ok (.getfield 12, 3) := by decide +kernel
theorem dX4_fewest_46 : decode cX4_fewest 46 = .ok (.aload_n 0, 1) := by decide +kernel
theorem dX4_fewest_47 : decode cX4_fewest 47 = .ok (.getfield 22, 3) := by decide +kernel
theorem dX4_fewest_50 : decode cX4_fewest 50 = .ok (.aload_n 1, 1) := by decide +kernel
theorem dX4_fewest_51 : decode cX4_fewest 51 = .ok (.getfield 59, 3) := by decide +kernel
theorem dX4_fewest_54 : decode cX4_fewest 54 = .ok (.bipush 16, 2) := by decide +kernel
theorem dX4_fewest_56 : decode cX4_fewest 56 = .ok (.imul, 1) := by decide +kernel
theorem dX4_fewest_57 : decode cX4_fewest 57 = .ok (.iload 4, 2) := by decide +kernel
theorem dX4_fewest_59 : decode cX4_fewest 59 = .ok (.invokevirtual 74, 3) := by decide +kernel
theorem dX4_fewest_62 : decode cX4_fewest 62 = .ok (.ifCond .eq 15, 3) := by decide +kernel
theorem dX4_fewest_65 : decode cX4_fewest 65 = .ok (.aload_n 0, 1) := by decide +kernel
theorem dX4_fewest_66 : decode cX4_fewest 66 = .ok (.aload_n 1, 1) := by decide +kernel
theorem dX4_fewest_67 : decode cX4_fewest 67 = .ok (.aload_n 1, 1) := by decide +kernel
theorem dX4_fewest_68 : decode cX4_fewest 68 = .ok (.getfield 59, 3) := by decide +kernel
theorem dX4_fewest_71 : decode cX4_fewest 71 = .ok (.iconst 0, 1) := by decide +kernel
theorem dX4_fewest_72 : decode cX4_fewest 72 = .ok (.iload 4, 2) := by decide +kernel
theorem dX4_fewest_74 : decode cX4_fewest 74 = .ok (.invokestatic 78, 3) := by decide +kernel
theorem dX4_fewest_77 : decode cX4_fewest 77 = .ok (.aload_n 0, 1) := by decide +kernel
theorem dX4_fewest_78 : decode cX4_fewest 78 = .ok (.getfield 34, 3) := by decide +kernel
theorem dX4_fewest_81 : decode cX4_fewest 81 = .ok (.ireturn, 1) := by decide +kernel
theorem dX4_lay_0 : decode cX4_lay 0 = .ok (.aload_n 0, 1) := by decide +kernel
theorem dX4_lay_1 : decode cX4_lay 1 = .ok (.getfield 18, 3) := by decide +kernel
theorem dX4_lay_4 : decode cX4_lay 4 = .ok (.iconst 0, 1) := by decide +kernel
theorem dX4_lay_5 : decode cX4_lay 5 = .ok (.invokestatic 82, 3) := by decide +kernel
theorem dX4_lay_8 : decode cX4_lay 8 = .ok (.aload_n 1, 1) := by decide +kernel
theorem dX4_lay_9 : decode cX4_lay 9 = .ok (.iload_n 2, 1) := by decide +kernel
theorem dX4_lay_10 : decode cX4_lay 10 = .ok (.aload_n 0, 1) := by decide +kernel
theorem dX4_lay_11 : decode cX4_lay 11 = .ok (.getfield 18, 3) := by decide +kernel
theorem dX4_lay_14 : decode cX4_lay 14 = .ok (.iconst 0, 1) := by decide +kernel
theorem dX4_lay_15 : decode cX4_lay 15 = .ok (.invokevirtual 88, 3) := by decide +kernel
theorem dX4_lay_18 : decode cX4_lay 18 = .ok (.iconst 0, 1) := by decide +kernel
theorem dX4_lay_19 : decode cX4_lay 19 = .ok (.istore_n 3, 1) := by decide +kernel
theorem dX4_lay_20 : decode cX4_lay 20 = .ok (.iload_n 3, 1) := by decide +kernel
theorem dX4_lay_21 : decode cX4_lay 21 = .ok (.aload_n 1, 1) := by decide +kernel
theorem dX4_lay_22 : decode cX4_lay 22 = .ok (.getfield 59, 3) := by decide +kernel
theorem dX4_lay_25 : decode cX4_lay 25 = .ok (.if_icmp .ge 92, 3) := by decide +kernel
theorem dX4_lay_28 : decode cX4_lay 28 = .ok (.aload_n 0, 1) := by decide +kernel
theorem dX4_lay_29 : decode cX4_lay 29 = .ok (.getfield 25, 3) := by decide +kernel
theorem dX4_lay_32 : decode cX4_lay 32 = .ok (.iload_n 3, 1) := by decide +kernel
theorem dX4_lay_33 : decode cX4_lay 33 = .ok (.iconst 1, 1) := by decide +kernel
theorem dX4_lay_34 : decode cX4_lay 34 = .ok (.iadd, 1) := by decide +kernel
theorem dX4_lay_35 : decode cX4_lay 35 = .ok (.aload_n 0, 1) := by decide +kernel
theorem dX4_lay_36 : decode cX4_lay 36 = .ok (.getfield 25, 3) := by decide +kernel
theorem dX4_lay_39 : decode cX4_lay 39 = .ok (.iload_n 3, 1) := by decide +kernel
theorem dX4_lay_40 : decode cX4_lay 40 = .ok (.iaload, 1) := by decide +kernel
theorem dX4_lay_41 : decode cX4_lay 41 = .ok (.aload_n 1, 1) := by decide +kernel
theorem dX4_lay_42 : decode cX4_lay 42 = .ok (.getfield 92, 3) := by decide +kernel
theorem dX4_lay_45 : decode cX4_lay 45 = .ok (.iload_n 3, 1) := by decide +kernel
theorem dX4_lay_46 : decode cX4_lay 46 = .ok (.iaload, 1) := by decide +kernel
theorem dX4_lay_47 : decode cX4_lay 47 = .ok (.invokestatic 54, 3) := by decide +kernel
theorem dX4_lay_50 : decode cX4_lay 50 = .ok (.invokestatic 95, 3) := by decide +kernel
theorem dX4_lay_53 : decode cX4_lay 53 = .ok (.iastore, 1) := by decide +kernel
theorem dX4_lay_54 : decode cX4_lay 54 = .ok (.iconst 0, 1) := by decide +kernel
theorem dX4_lay_55 : decode cX4_lay 55 = .ok (.istore 4, 2) := by decide +kernel
theorem dX4_lay_57 : decode cX4_lay 57 = .ok (.iload 4, 2) := by decide +kernel
theorem dX4_lay_59 : decode cX4_lay 59 = .ok (.aload_n 1, 1) := by decide +kernel
theorem dX4_lay_60 : decode cX4_lay 60 = .ok (.getfield 59, 3) := by decide +kernel
theorem dX4_lay_63 : decode cX4_lay 63 = .ok (.if_icmp .ge 48, 3) := by decide +kernel
theorem dX4_lay_66 : decode cX4_lay 66 = .ok (.aload_n 0, 1) := by decide +kernel
theorem dX4_lay_67 : decode cX4_lay 67 = .ok (.getfield 22, 3) := by decide +kernel
theorem dX4_lay_70 : decode cX4_lay 70 = .ok (.iload_n 3, 1) := by decide +kernel
theorem dX4_lay_71 : decode cX4_lay 71 = .ok (.iconst 1, 1) := by decide +kernel
theorem dX4_lay_72 : decode cX4_lay 72 = .ok (.iadd, 1) := by decide +kernel
theorem dX4_lay_73 : decode cX4_lay 73 = .ok (.bipush 16, 2) := by decide +kernel
theorem dX4_lay_75 : decode cX4_lay 75 = .ok (.imul, 1) := by decide +kernel
theorem dX4_lay_76 : decode cX4_lay 76 = .ok (.iload 4, 2) := by decide +kernel
theorem dX4_lay_78 : decode cX4_lay 78 = .ok (.iadd, 1) := by decide +kernel
theorem dX4_lay_79 : decode cX4_lay 79 = .ok (.aload_n 0, 1) := by decide +kernel
theorem dX4_lay_80 : decode cX4_lay 80 = .ok (.getfield 22, 3) := by decide +kernel
theorem dX4_lay_83 : decode cX4_lay 83 = .ok (.iload_n 3, 1) := by decide +kernel
theorem dX4_lay_84 : decode cX4_lay 84 = .ok (.bipush 16, 2) := by decide +kernel
theorem dX4_lay_86 : decode cX4_lay 86 = .ok (.imul, 1) := by decide +kernel
theorem dX4_lay_87 : decode cX4_lay 87 = .ok (.iload 4, 2) := by decide +kernel
theorem dX4_lay_89 : decode cX4_lay 89 = .ok (.iadd, 1) := by decide +kernel
theorem dX4_lay_90 : decode cX4_lay 90 = .ok (.iaload, 1) := by decide +kernel
theorem dX4_lay_91 : decode cX4_lay 91 = .ok (.aload_n 0, 1) := by decide +kernel
theorem dX4_lay_92 : decode cX4_lay 92 = .ok (.getfield 18, 3) := by decide +kernel
theorem dX4_lay_95 : decode cX4_lay 95 = .ok (.iload_n 3, 1) := by decide +kernel
theorem dX4_lay_96 : decode cX4_lay 96 = .ok (.bipush 16, 2) := by decide +kernel
theorem dX4_lay_98 : decode cX4_lay 98 = .ok (.imul, 1) := by decide +kernel
theorem dX4_lay_99 : decode cX4_lay 99 = .ok (.iload 4, 2) := by decide +kernel
theorem dX4_lay_101 : decode cX4_lay 101 = .ok (.iadd, 1) := by decide +kernel
theorem dX4_lay_102 : decode cX4_lay 102 = .ok (.iaload, 1) := by decide +kernel
theorem dX4_lay_103 : decode cX4_lay 103 = .ok (.iadd, 1) := by decide +kernel
theorem dX4_lay_104 : decode cX4_lay 104 = .ok (.iastore, 1) := by decide +kernel
theorem dX4_lay_105 : decode cX4_lay 105 = .ok (.iinc 4 1, 3) := by decide +kernel
theorem dX4_lay_108 : decode cX4_lay 108 = .ok (.goto (-51), 3) := by decide +kernel
theorem dX4_lay_111 : decode cX4_lay 111 = .ok (.iinc 3 1, 3) := by decide +kernel
theorem dX4_lay_114 : decode cX4_lay 114 = .ok (.goto (-94), 3) := by decide +kernel
theorem dX4_lay_117 : decode cX4_lay 117 = .ok (.return_, 1) := by decide +kernel
theorem dX4_seek_0 : decode cX4_seek 0 = .ok (.aload_n 0, 1) := by decide +kernel
theorem dX4_seek_1 : decode cX4_seek 1 = .ok (.getfield 38, 3) := by decide +kernel
theorem dX4_seek_4 : decode cX4_seek 4 = .ok (.iconst 1, 1) := by decide +kernel
theorem dX4_seek_5 : decode cX4_seek 5 = .ok (.isub, 1) := by decide +kernel
theorem dX4_seek_6 : decode cX4_seek 6 = .ok (.iload_n 3, 1) := by decide +kernel
theorem dX4_seek_7 : decode cX4_seek 7 = .ok (.invokestatic 54, 3) := by decide +kernel
theorem dX4_seek_10 : decode cX4_seek 10 = .ok (.isub, 1) := by decide +kernel
theorem dX4_seek_11 : decode cX4_seek 11 = .ok (.istore 5, 2) := by decide +kernel
theorem dX4_seek_13 : decode cX4_seek 13 = .ok (.iload 5, 2) := by decide +kernel
theorem dX4_seek_15 : decode cX4_seek 15 = .ok (.ifCond .ge 4, 3) := by decide +kernel
theorem dX4_seek_18 : decode cX4_seek 18 = .ok (.return_, 1) := by decide +kernel
theorem dX4_seek_19 : decode cX4_seek 19 = .ok (.iload 4, 2) := by decide +kernel
theorem dX4_seek_21 : decode cX4_seek 21 = .ok (.ifCond .ne 17, 3) := by decide +kernel
theorem dX4_seek_24 : decode cX4_seek 24 = .ok (.aload_n 0, 1) := by decide +kernel
theorem dX4_seek_25 : decode cX4_seek 25 = .ok (.iload_n 3, 1) := by decide +kernel
theorem dX4_seek_26 : decode cX4_seek 26 = .ok (.putfield 34, 3) := by decide +kernel
theorem dX4_seek_29 : decode cX4_seek 29 = .ok (.aload_n 0, 1) := by decide +kernel
theorem dX4_seek_30 : decode cX4_seek 30 = .ok (.iload_n 3, 1) := by decide +kernel
theorem dX4_seek_31 : decode cX4_seek 31 = .ok (.invokestatic 54, 3) := by decide +kernel
theorem dX4_seek_34 : decode cX4_seek 34 = .ok (.putfield 38, 3) := by decide +kernel
theorem dX4_seek_37 : decode cX4_seek 37 = .ok (.return_, 1) := by decide +kernel
theorem dX4_seek_38 : decode cX4_seek 38 = .ok (.iload_n 2, 1) := by decide +kernel
theorem dX4_seek_39 : decode cX4_seek 39 = .ok (.ifCond .le 20, 3) := by decide +kernel
theorem dX4_seek_42 : decode cX4_seek 42 = .ok (.iload 4, 2) := by decide +kernel
theorem dX4_seek_44 : decode cX4_seek 44 = .ok (.invokestatic 54, 3) := by decide +kernel
theorem dX4_seek_47 : decode cX4_seek 47 = .ok (.iload 5, 2) := by decide +kernel
theorem dX4_seek_49 : decode cX4_seek 49 = .ok (.aload_n 0, 1) := by decide +kernel
theorem dX4_seek_50 : decode cX4_seek 50 = .ok (.getfield 25, 3) := by decide +kernel
theorem dX4_seek_53 : decode cX4_seek 53 = .ok (.iload_n 2, 1) := by decide +kernel
theorem dX4_seek_54 : decode cX4_seek 54 = .ok (.iaload, 1) := by decide +kernel
theorem dX4_seek_55 : decode cX4_seek 55 = .ok (.imul, 1) := by decide +kernel
theorem dX4_seek_56 : decode cX4_seek 56 = .ok (.if_icmp .le 4, 3) := by decide +kernel
theorem dX4_seek_59 : decode cX4_seek 59 = .ok (.return_, 1) := by decide +kernel
theorem dX4_seek_60 : decode cX4_seek 60 = .ok (.iload_n 2, 1) := by decide +kernel
theorem dX4_seek_61 : decode cX4_seek 61 = .ok (.iconst 1, 1) := by decide +kernel
theorem dX4_seek_62 : decode cX4_seek 62 = .ok (.isub, 1) := by decide +kernel
theorem dX4_seek_63 : decode cX4_seek 63 = .ok (.istore 6, 2) := by decide +kernel
theorem dX4_seek_65 : decode cX4_seek 65 = .ok (.iload 4, 2) := by decide +kernel
theorem dX4_seek_67 : decode cX4_seek 67 = .ok (.aload_n 1, 1) := by decide +kernel
theorem dX4_seek_68 : decode cX4_seek 68 = .ok (.getfield 92, 3) := by decide +kernel
theorem dX4_seek_71 : decode cX4_seek 71 = .ok (.iload 6, 2) := by decide +kernel
theorem dX4_seek_73 : decode cX4_seek 73 = .ok (.iaload, 1) := by decide +kernel
theorem dX4_seek_74 : decode cX4_seek 74 = .ok (.iand, 1) := by decide +kernel
theorem dX4_seek_75 : decode cX4_seek 75 = .ok (.istore 7, 2) := by decide +kernel
theorem dX4_seek_77 : decode cX4_seek 77 = .ok (.aload_n 0, 1) := by decide +kernel
theorem dX4_seek_78 : decode cX4_seek 78 = .ok (.getfield 12, 3) := by decide +kernel
theorem dX4_seek_81 : decode cX4_seek 81 = .ok (.aload_n 0, 1) := by decide +kernel
theorem dX4_seek_82 : decode cX4_seek 82 = .ok (.getfield 22, 3) := by decide +kernel
theorem dX4_seek_85 : decode cX4_seek 85 = .ok (.iload 6, 2) := by decide +kernel
theorem dX4_seek_87 : decode cX4_seek 87 = .ok (.bipush 16, 2) := by decide +kernel
theorem dX4_seek_89 : decode cX4_seek 89 = .ok (.imul, 1) := by decide +kernel
theorem dX4_seek_90 : decode cX4_seek 90 = .ok (.iload 7, 2) := by decide +kernel
theorem dX4_seek_92 : decode cX4_seek 92 = .ok (.invokevirtual 74, 3) := by decide +kernel
theorem dX4_seek_95 : decode cX4_seek 95 = .ok (.ifCond .eq 13, 3) := by decide +kernel
theorem dX4_seek_98 : decode cX4_seek 98 = .ok (.aload_n 0, 1) := by decide +kernel
theorem dX4_seek_99 : decode cX4_seek 99 = .ok (.aload_n 1, 1) := by decide +kernel
theorem dX4_seek_100 : decode cX4_seek 100 = .ok (.iload 6, 2) := by decide +kernel
theorem dX4_seek_102 : decode cX4_seek 102 = .ok (.iload_n 3, 1) := by decide +kernel
theorem dX4_seek_103 : decode cX4_seek 103 = .ok (.iload 4, 2) := by decide +kernel
theorem dX4_seek_105 : decode cX4_seek 105 = .ok (.invokestatic 78, 3) := by decide +kernel
theorem dX4_seek_108 : decode cX4_seek 108 = .ok (.iload 7, 2) := by decide +kernel
theorem dX4_seek_110 : decode cX4_seek 110 = .ok (.ifCond .eq 67, 3) := by decide +kernel
theorem dX4_seek_113 : decode cX4_seek 113 = .ok (.aload_n 0, 1) := by decide +kernel
theorem dX4_seek_114 : decode cX4_seek 114 = .ok (.getfield 12, 3) := by decide +kernel
theorem dX4_seek_117 : decode cX4_seek 117 = .ok (.aload_n 0, 1) := by decide +kernel
theorem dX4_seek_118 : decode cX4_seek 118 = .ok (.getfield 18, 3) := by decide +kernel
theorem dX4_seek_121 : decode cX4_seek 121 = .ok (.iload 6, 2) := by decide +kernel
theorem dX4_seek_123 : decode cX4_seek 123 = .ok (.bipush 16, 2) := by decide +kernel
theorem dX4_seek_125 : decode cX4_seek 125 = .ok (.imul, 1) := by decide +kernel
theorem dX4_seek_126 : decode cX4_seek 126 = .ok (.iconst 1, 1) := by decide +kernel
theorem dX4_seek_127 : decode cX4_seek 127 = .ok (.invokevirtual 101, 3) := by decide +kernel
theorem dX4_seek_130 : decode cX4_seek 130 = .ok (.aload_n 0, 1) := by decide +kernel
theorem dX4_seek_131 : decode cX4_seek 131 = .ok (.getfield 12, 3) := by decide +kernel
theorem dX4_seek_134 : decode cX4_seek 134 = .ok (.invokevirtual 105, 3) := by decide +kernel
theorem dX4_seek_137 : decode cX4_seek 137 = .ok (.ifCond .eq 23, 3) := by decide +kernel
theorem dX4_seek_140 : decode cX4_seek 140 = .ok (.aload_n 0, 1) := by decide +kernel
theorem dX4_seek_141 : decode cX4_seek 141 = .ok (.aload_n 1, 1) := by decide +kernel
theorem dX4_seek_142 : decode cX4_seek 142 = .ok (.iload 6, 2) := by decide +kernel
theorem dX4_seek_144 : decode cX4_seek 144 = .ok (.iload_n 3, 1) := by decide +kernel
theorem dX4_seek_145 : decode cX4_seek 145 = .ok (.iconst 1, 1) := by decide +kernel
theorem dX4_seek_146 : decode cX4_seek 146 = .ok (.iload 6, 2) := by decide +kernel
theorem dX4_seek_148 : decode cX4_seek 148 = .ok (.ishl, 1) := by decide +kernel
theorem dX4_seek_149 : decode cX4_seek 149 = .ok (.ior, 1) := by decide +kernel
theorem dX4_seek_150 : decode cX4_seek 150 = .ok (.aload_n 0, 1) := by decide +kernel
theorem dX4_seek_151 : decode cX4_seek 151 = .ok (.getfield 12, 3) := by decide +kernel
theorem dX4_seek_154 : decode cX4_seek 154 = .ok (.invokevirtual 70, 3) := by decide +kernel
theorem dX4_seek_157 : decode cX4_seek 157 = .ok (.invokestatic 78, 3) := by decide +kernel
theorem dX4_seek_160 : decode cX4_seek 160 = .ok (.aload_n 0, 1) := by decide +kernel
theorem dX4_seek_161 : decode cX4_seek 161 = .ok (.getfield 12, 3) := by decide +kernel
theorem dX4_seek_164 : decode cX4_seek 164 = .ok (.aload_n 0, 1) := by decide +kernel
theorem dX4_seek_165 : decode cX4_seek 165 = .ok (.getfield 18, 3) := by decide +kernel
theorem dX4_seek_168 : decode cX4_seek 168 = .ok (.iload 6, 2) := by decide +kernel
theorem dX4_seek_170 : decode cX4_seek 170 = .ok (.bipush 16, 2) := by decide +kernel
theorem dX4_seek_172 : decode cX4_seek 172 = .ok (.imul, 1) := by decide +kernel
theorem dX4_seek_173 : decode cX4_seek 173 = .ok (.iconst (-1), 1) := by decide +kernel
theorem dX4_seek_174 : decode cX4_seek 174 = .ok (.invokevirtual 101, 3) := by decide +kernel
theorem dX4_seek_177 : decode cX4_seek 177 = .ok (.return_, 1) := by decide +kernel
theorem dX5_init_0 : decode cX5_init 0 = .ok (.aload_n 0, 1) := by decide +kernel
theorem dX5_init_1 : decode cX5_init 1 = .ok (.invokespecial 3, 3) := by decide +kernel
theorem dX5_init_4 : decode cX5_init 4 = .ok (.aload_n 0, 1) := by decide +kernel
theorem dX5_init_5 : decode cX5_init 5 = .ok (.bipush 16, 2) := by decide +kernel
theorem dX5_init_7 : decode cX5_init 7 = .ok (.newarray .int, 2) := by decide +kernel
theorem dX5_init_9 : decode cX5_init 9 = .ok (.putfield 9, 3) := by decide +kernel
theorem dX5_init_12 : decode cX5_init 12 = .ok (.aload_n 0, 1) := by decide +kernel
theorem dX5_init_13 : decode cX5_init 13 = .ok (.bipush 16, 2) := by decide +kernel
theorem dX5_init_15 : decode cX5_init 15 = .ok (.newarray .int, 2) := by decide +kernel
theorem dX5_init_17 : decode cX5_init 17 = .ok (.putfield 15, 3) := by decide +kernel
theorem dX5_init_20 : decode cX5_init 20 = .ok (.aload_n 0, 1) := by decide +kernel
theorem dX5_init_21 : decode cX5_init 21 = .ok (.getfield 9, 3) := by decide +kernel
theorem dX5_init_24 : decode cX5_init 24 = .ok (.iconst (-1), 1) := by decide +kernel
theorem dX5_init_25 : decode cX5_init 25 = .ok (.invokestatic 18, 3) := by decide +kernel
theorem dX5_init_28 : decode cX5_init 28 = .ok (.return_, 1) := by decide +kernel
theorem dX5_takeDown_0 : decode cX5_takeDown 0 = .ok (.aload_n 0, 1) := by decide +kernel
theorem dX5_takeDown_1 : decode cX5_takeDown 1 = .ok (.getfield 9, 3) := by decide +kernel
theorem dX5_takeDown_4 : decode cX5_takeDown 4 = .ok (.iconst (-1), 1) := by decide +kernel
theorem dX5_takeDown_5 : decode cX5_takeDown 5 = .ok (.invokestatic 18, 3) := by decide +kernel
theorem dX5_takeDown_8 : decode cX5_takeDown 8 = .ok (.aload_n 0, 1) := by decide +kernel
theorem dX5_takeDown_9 : decode cX5_takeDown 9 = .ok (.getfield 15, 3) := by decide +kernel
theorem dX5_takeDown_12 : decode cX5_takeDown 12 = .ok (.iconst 0, 1) := by decide +kernel
theorem dX5_takeDown_13 : decode cX5_takeDown 13 = .ok (.invokestatic 18, 3) := by decide +kernel
theorem dX5_takeDown_16 : decode cX5_takeDown 16 = .ok (.return_, 1) := by decide +kernel
theorem dX5_put_0 : decode cX5_put 0 = .ok (.aload_n 0, 1) := by decide +kernel
theorem dX5_put_1 : decode cX5_put 1 = .ok (.getfield 9, 3) := by decide +kernel
theorem dX5_put_4 : decode cX5_put 4 = .ok (.iload_n 1, 1) := by decide +kernel
theorem dX5_put_5 : decode cX5_put 5 = .ok (.iload_n 2, 1) := by decide +kernel
theorem dX5_put_6 : decode cX5_put 6 = .ok (.iastore, 1) := by decide +kernel
theorem dX5_put_7 : decode cX5_put 7 = .ok (.aload_n 0, 1) := by decide +kernel
theorem dX5_put_8 : decode cX5_put 8 = .ok (.getfield 15, 3) := by decide +kernel
theorem dX5_put_11 : decode cX5_put 11 = .ok (.iload_n 1, 1) := by decide +kernel
theorem dX5_put_12 : decode cX5_put 12 = .ok (.iload_n 2, 1) := by decide +kernel
theorem dX5_put_13 : decode cX5_put 13 = .ok (.iconst (-1), 1) := by decide +kernel
theorem dX5_put_14 : decode cX5_put 14 = .ok (.if_icmp .ne 7, 3) := by decide +kernel
theorem dX5_put_17 : decode cX5_put 17 = .ok (.iconst 0, 1) := by decide +kernel
theorem dX5_put_18 : decode cX5_put 18 = .ok (.goto 4, 3) := by decide +kernel
theorem dX5_put_21 : decode cX5_put 21 = .ok (.iload_n 3, 1) := by decide +kernel
theorem dX5_put_22 : decode cX5_put 22 = .ok (.iastore, 1) := by decide +kernel
theorem dX5_put_23 : decode cX5_put 23 = .ok (.return_, 1) := by decide +kernel
theorem dX5_burning_0 : decode cX5_burning 0 = .ok (.iconst 0, 1) := by decide +kernel
theorem dX5_burning_1 : decode cX5_burning 1 = .ok (.istore_n 2, 1) := by decide +kernel
theorem dX5_burning_2 : decode cX5_burning 2 = .ok (.iconst 0, 1) := by decide +kernel
theorem dX5_burning_3 : decode cX5_burning 3 = .ok (.istore_n 3, 1) := by decide +kernel
theorem dX5_burning_4 : decode cX5_burning 4 = .ok (.iload_n 3, 1) := by decide +kernel
theorem dX5_burning_5 : decode cX5_burning 5 = .ok (.bipush 16, 2) := by decide +kernel
theorem dX5_burning_7 : decode cX5_burning 7 = .ok (.if_icmp .ge 24, 3) := by decide +kernel
theorem dX5_burning_10 : decode cX5_burning 10 = .ok (.iload_n 2, 1) := by decide +kernel
theorem dX5_burning_11 : decode cX5_burning 11 = .ok (.aload_n 0, 1) := by decide +kernel
theorem dX5_burning_12 : decode cX5_burning 12 = .ok (.getfield 15, 3) := by decide +kernel
theorem dX5_burning_15 : decode cX5_burning 15 = .ok (.iload_n 3, 1) := by decide +kernel
theorem dX5_burning_16 : decode cX5_burning 16 = .ok (.iaload, 1) := by decide +kernel
theorem dX5_burning_17 : decode cX5_burning 17 = .ok (.iload_n 1, 1) := by decide +kernel
theorem dX5_burning_18 : decode cX5_burning 18 = .ok (.ishr, 1) := by decide +kernel
theorem dX5_burning_19 : decode cX5_burning 19 = .ok (.iconst 1, 1) := by decide +kernel
theorem dX5_burning_20 : decode cX5_burning 20 = .ok (.iand, 1) := by decide +kernel
theorem dX5_burning_21 : decode cX5_burning 21 = .ok (.iload_n 3, 1) := by decide +kernel
theorem dX5_burning_22 : decode cX5_burning 22 = .ok (.ishl, 1) := by decide +kernel
theorem dX5_burning_23 : decode cX5_burning 23 = .ok (.ior, 1) := by decide +kernel
theorem dX5_burning_24 : decode cX5_burning 24 = .ok (.istore_n 2, 1) := by decide +kernel
theorem dX5_burning_25 : decode cX5_burning 25 = .ok (.iinc 3 1, 3) := by decide +kernel
theorem dX5_burning_28 : decode cX5_burning 28 = .ok (.goto (-24), 3) := by decide +kernel
theorem dX5_burning_31 : decode cX5_burning 31 = .ok (.iload_n 2, 1) := by decide +kernel
theorem dX5_burning_32 : decode cX5_burning 32 = .ok (.ireturn, 1) := by decide +kernel
theorem dX5_hanging_0 : decode cX5_hanging 0 = .ok (.iconst 0, 1) := by decide +kernel
theorem dX5_hanging_1 : decode cX5_hanging 1 = .ok (.istore_n 1, 1) := by decide +kernel
theorem dX5_hanging_2 : decode cX5_hanging 2 = .ok (.iconst 0, 1) := by decide +kernel
theorem dX5_hanging_3 : decode cX5_hanging 3 = .ok (.istore_n 2, 1) := by decide +kernel
theorem dX5_hanging_4 : decode cX5_hanging 4 = .ok (.iload_n 2, 1) := by decide +kernel
theorem dX5_hanging_5 : decode cX5_hanging 5 = .ok (.bipush 16, 2) := by decide +kernel
theorem dX5_hanging_7 : decode cX5_hanging 7 = .ok (.if_icmp .ge 27, 3) := by decide +kernel
theorem dX5_hanging_10 : decode cX5_hanging 10 = .ok (.iload_n 1, 1) := by decide +kernel
theorem dX5_hanging_11 : decode cX5_hanging 11 = .ok (.aload_n 0, 1) := by decide +kernel
theorem dX5_hanging_12 : decode cX5_hanging 12 = .ok (.getfield 9, 3) := by decide +kernel
theorem dX5_hanging_15 : decode cX5_hanging 15 = .ok (.iload_n 2, 1) := by decide +kernel
theorem dX5_hanging_16 : decode cX5_hanging 16 = .ok (.iaload, 1) := by decide +kernel
theorem dX5_hanging_17 : decode cX5_hanging 17 = .ok (.iconst (-1), 1) := by decide +kernel
theorem dX5_hanging_18 : decode cX5_hanging 18 = .ok (.if_icmp .ne 7, 3) := by decide +kernel
theorem dX5_hanging_21 : decode cX5_hanging 21 = .ok (.iconst 0, 1) := by decide +kernel
theorem dX5_hanging_22 : decode cX5_hanging 22 = .ok (.goto 4, 3) := by decide +kernel
theorem dX5_hanging_25 : decode cX5_hanging 25 = .ok (.iconst 1, 1) := by decide +kernel
theorem dX5_hanging_26 : decode cX5_hanging 26 = .ok (.iadd, 1) := by decide +kernel
theorem dX5_hanging_27 : decode cX5_hanging 27 = .ok (.istore_n 1, 1) := by decide +kernel
theorem dX5_hanging_28 : decode cX5_hanging 28 = .ok (.iinc 2 1, 3) := by decide +kernel
theorem dX5_hanging_31 : decode cX5_hanging 31 = .ok (.goto (-27), 3) := by decide +kernel
theorem dX5_hanging_34 : decode cX5_hanging 34 = .ok (.iload_n 1, 1) := by decide +kernel
theorem dX5_hanging_35 : decode cX5_hanging 35 = .ok (.ireturn, 1) := by decide +kernel
theorem dX5_copyFrom_0 : decode cX5_copyFrom 0 = .ok (.aload_n 1, 1) := by decide +kernel
theorem dX5_copyFrom_1 : decode cX5_copyFrom 1 = .ok (.getfield 9, 3) := by decide +kernel
theorem dX5_copyFrom_4 : decode cX5_copyFrom 4 = .ok (.iconst 0, 1) := by decide +kernel
theorem dX5_copyFrom_5 : decode cX5_copyFrom 5 = .ok (.aload_n 0, 1) := by decide +kernel
theorem dX5_copyFrom_6 : decode cX5_copyFrom 6 = .ok (.getfield 9, 3) := by decide +kernel
theorem dX5_copyFrom_9 : decode cX5_copyFrom 9 = .ok (.iconst 0, 1) := by decide +kernel
theorem dX5_copyFrom_10 : decode cX5_copyFrom 10 = .ok (.bipush 16, 2) := by decide +kernel
theorem dX5_copyFrom_12 : decode cX5_copyFrom 12 = .ok (.invokestatic 24, 3) := by decide +kernel
theorem dX5_copyFrom_15 : decode cX5_copyFrom 15 = .ok (.aload_n 1, 1) := by decide +kernel
theorem dX5_copyFrom_16 : decode cX5_copyFrom 16 = .ok (.getfield 15, 3) := by decide +kernel
theorem dX5_copyFrom_19 : decode cX5_copyFrom 19 = .ok (.iconst 0, 1) := by decide +kernel
theorem dX5_copyFrom_20 : decode cX5_copyFrom 20 = .ok (.aload_n 0, 1) := by decide +kernel
theorem dX5_copyFrom_21 : decode cX5_copyFrom 21 = .ok (.getfield 15, 3) := by decide +kernel
theorem dX5_copyFrom_24 : decode cX5_copyFrom 24 = .ok (.iconst 0, 1) := by decide +kernel
theorem dX5_copyFrom_25 : decode cX5_copyFrom 25 = .ok (.bipush 16, 2) := by decide +kernel
theorem dX5_copyFrom_27 : decode cX5_copyFrom 27 = .ok (.invokestatic 24, 3) := by decide +kernel
theorem dX5_copyFrom_30 : decode cX5_copyFrom 30 = .ok (.return_, 1) := by decide +kernel
theorem dX6_init_0 : decode cX6_init 0 = .ok (.aload_n 0, 1) := by decide +kernel
theorem dX6_init_1 : decode cX6_init 1 = .ok (.invokespecial 3, 3) := by decide +kernel
theorem dX6_init_4 : decode cX6_init 4 = .ok (.aload_n 0, 1) := by decide +kernel
theorem dX6_init_5 : decode cX6_init 5 = .ok (.iconst 0, 1) := by decide +kernel
theorem dX6_init_6 : decode cX6_init 6 = .ok (.putfield 9, 3) := by decide +kernel
theorem dX6_init_9 : decode cX6_init 9 = .ok (.aload_n 0, 1) := by decide +kernel
theorem dX6_init_10 : decode cX6_init 10 = .ok (.iconst 0, 1) := by decide +kernel
theorem dX6_init_11 : decode cX6_init 11 = .ok (.putfield 15, 3) := by decide +kernel
theorem dX6_init_14 : decode cX6_init 14 = .ok (.aload_n 0, 1) := by decide +kernel
theorem dX6_init_15 : decode cX6_init 15 = .ok (.bipush 8, 2) := by decide +kernel
theorem dX6_init_17 : decode cX6_init 17 = .ok (.newarray .int, 2) := by decide +kernel
theorem dX6_init_19 : decode cX6_init 19 = .ok (.putfield 18, 3) := by decide +kernel
theorem dX6_init_22 : decode cX6_init 22 = .ok (.aload_n 0, 1) := by decide +kernel
theorem dX6_init_23 : decode cX6_init 23 = .ok (.aconst_null, 1) := by decide +kernel
theorem dX6_init_24 : decode cX6_init 24 = .ok (.putfield 22, 3) := by decide +kernel
theorem dX6_init_27 : decode cX6_init 27 = .ok (.aload_n 0, 1) := by decide +kernel
theorem dX6_init_28 : decode cX6_init 28 = .ok (.iconst 0, 1) := by decide +kernel
theorem dX6_init_29 : decode cX6_init 29 = .ok (.putfield 26, 3) := by decide +kernel
theorem dX6_init_32 : decode cX6_init 32 = .ok (.aload_n 0, 1) := by decide +kernel
theorem dX6_init_33 : decode cX6_init 33 = .ok (.new 29, 3) := by decide +kernel
theorem dX6_init_36 : decode cX6_init 36 = .ok (.dup, 1) := by decide +kernel
theorem dX6_init_37 : decode cX6_init 37 = .ok (.invokespecial 31, 3) := by decide +kernel
theorem dX6_init_40 : decode cX6_init 40 = .ok (.putfield 32, 3) := by decide +kernel
theorem dX6_init_43 : decode cX6_init 43 = .ok (.aload_n 0, 1) := by decide +kernel
theorem dX6_init_44 : decode cX6_init 44 = .ok (.iconst 0, 1) := by decide +kernel
theorem dX6_init_45 : decode cX6_init 45 = .ok (.putfield 36, 3) := by decide +kernel
theorem dX6_init_48 : decode cX6_init 48 = .ok (.aload_n 0, 1) := by decide +kernel
theorem dX6_init_49 : decode cX6_init 49 = .ok (.bipush 8, 2) := by decide +kernel
theorem dX6_init_51 : decode cX6_init 51 = .ok (.newarray .int, 2) := by decide +kernel
theorem dX6_init_53 : decode cX6_init 53 = .ok (.putfield 39, 3) := by decide +kernel
theorem dX6_init_56 : decode cX6_init 56 = .ok (.aload_n 0, 1) := by decide +kernel
theorem dX6_init_57 : decode cX6_init 57 = .ok (.sipush 512, 3) := by decide +kernel
theorem dX6_init_60 : decode cX6_init 60 = .ok (.newarray .int, 2) := by decide +kernel
theorem dX6_init_62 : decode cX6_init 62 = .ok (.putfield 42, 3) := by decide +kernel
theorem dX6_init_65 : decode cX6_init 65 = .ok (.aload_n 0, 1) := by decide +kernel
theorem dX6_init_66 : decode cX6_init 66 = .ok (.sipush 144, 3) := by decide +kernel
theorem dX6_init_69 : decode cX6_init 69 = .ok (.newarray .int, 2) := by decide +kernel
theorem dX6_init_71 : decode cX6_init 71 = .ok (.putfield 45, 3) := by decide +kernel
theorem dX6_init_74 : decode cX6_init 74 = .ok (.return_, 1) := by decide +kernel
theorem dX6_find_0 : decode cX6_find 0 = .ok (.aload_n 1, 1) := by decide +kernel
theorem dX6_find_1 : decode cX6_find 1 = .ok (.iload_n 2, 1) := by decide +kernel
theorem dX6_find_2 : decode cX6_find 2 = .ok (.invokevirtual 48, 3) := by decide +kernel
theorem dX6_find_5 : decode cX6_find 5 = .ok (.istore_n 3, 1) := by decide +kernel
theorem dX6_find_6 : decode cX6_find 6 = .ok (.aload_n 0, 1) := by decide +kernel
theorem dX6_find_7 : decode cX6_find 7 = .ok (.getfield 22, 3) := by decide +kernel
theorem dX6_find_10 : decode cX6_find 10 = .ok (.aload_n 1, 1) := by decide +kernel
theorem dX6_find_11 : decode cX6_find 11 = .ok (.if_acmp .ne 11, 3) := by decide +kernel
theorem dX6_find_14 : decode cX6_find 14 = .ok (.aload_n 0, 1) := by decide +kernel
theorem dX6_find_15 : decode cX6_find 15 = .ok (.getfield 26, 3) := by decide +kernel
theorem dX6_find_18 : decode cX6_find 18 = .ok (.iload_n 3, 1) := by decide +kernel
theorem dX6_find_19 : decode cX6_find 19 = .ok (.if_icmp .eq 19, 3) := by decide +kernel
theorem dX6_find_22 : decode cX6_find 22 = .ok (.aload_n 0, 1) := by decide +kernel
theorem dX6_find_23 : decode cX6_find 23 = .ok (.aload_n 1, 1) := by decide +kernel
theorem dX6_find_24 : decode cX6_find 24 = .ok (.putfield 22, 3) := by decide +kernel
theorem dX6_find_27 : decode cX6_find 27 = .ok (.aload_n 0, 1) := by decide +kernel
theorem dX6_find_28 : decode cX6_find 28 = .ok (.iload_n 3, 1) := by decide +kernel
theorem dX6_find_29 : decode cX6_find 29 = .ok (.putfield 26, 3) := by decide +kernel
theorem dX6_find_32 : decode cX6_find 32 = .ok (.aload_n 0, 1) := by decide +kernel
theorem dX6_find_33 : decode cX6_find 33 = .ok (.aload_n 1, 1) := by decide +kernel
theorem dX6_find_34 : decode cX6_find 34 = .ok (.iload_n 2, 1) := by decide +kernel
theorem dX6_find_35 : decode cX6_find 35 = .ok (.invokevirtual 54, 3) := by decide +kernel
theorem dX6_find_38 : decode cX6_find 38 = .ok (.aload_n 0, 1) := by decide +kernel
theorem dX6_find_39 : decode cX6_find 39 = .ok (.getfield 9, 3) := by decide +kernel
theorem dX6_find_42 : decode cX6_find 42 = .ok (.ldc 58, 2) := by decide +kernel
theorem dX6_find_44 : decode cX6_find 44 = .ok (.if_icmp .ge 7, 3) := by decide +kernel
theorem dX6_find_47 : decode cX6_find 47 = .ok (.iconst 1, 1) := by decide +kernel
theorem dX6_find_48 : decode cX6_find 48 = .ok (.goto 4, 3) := by decide +kernel
theorem dX6_find_51 : decode cX6_find 51 = .ok (.iconst 0, 1) := by decide +kernel
theorem dX6_find_52 : decode cX6_find 52 = .ok (.ireturn, 1) := by decide +kernel
theorem dX6_search_0 : decode cX6_search 0 = .ok (.aload_n 0, 1) := by decide +kernel
theorem dX6_search_1 : decode cX6_search 1 = .ok (.ldc 58, 2) := by decide +kernel
theorem dX6_search_3 : decode cX6_search 3 = .ok (.putfield 9, 3) := by decide +kernel
theorem dX6_search_6 : decode cX6_search 6 = .ok (.aload_n 0, 1) := by decide +kernel
theorem dX6_search_7 : decode cX6_search 7 = .ok (.iconst 0, 1) := by decide +kernel
theorem dX6_search_8 : decode cX6_search 8 = .ok (.putfield 15, 3) := by decide +kernel
theorem dX6_search_11 : decode cX6_search 11 = .ok (.aload_n 1, 1) := by decide +kernel
theorem dX6_search_12 : decode cX6_search 12 = .ok (.getfield 59, 3) := by decide +kernel
theorem dX6_search_15 : decode cX6_search 15 = .ok (.bipush 8, 2) := by decide +kernel
theorem dX6_search_17 : decode cX6_search 17 = .ok (.if_icmp .gt 15, 3) := by decide +kernel
theorem dX6_search_20 : decode cX6_search 20 = .ok (.aload_n 0, 1) := by decide +kernel
theorem dX6_search_21 : decode cX6_search 21 = .ok (.getfield 32, 3) := by decide +kernel
theorem dX6_search_24 : decode cX6_search 24 = .ok (.aload_n 1, 1) := by decide +kernel
theorem dX6_search_25 : decode cX6_search 25 = .ok (.iload_n 2, 1) := by decide +kernel
theorem dX6_search_26 : decode cX6_search 26 = .ok (.invokevirtual 62, 3) := by decide +kernel
theorem dX6_search_29 : decode cX6_search 29 = .ok (.ifCond .ne 4, 3) := by decide +kernel
theorem dX6_search_32 : decode cX6_search 32 = .ok (.return_, 1) := by decide +kernel
theorem dX6_search_33 : decode cX6_search 33 = .ok (.aload_n 0, 1) := by decide +kernel
theorem dX6_search_34 : decode cX6_search 34 = .ok (.aload_n 1, 1) := by decide +kernel
theorem dX6_search_35 : decode cX6_search 35 = .ok (.invokevirtual 66, 3) := by decide +kernel
theorem dX6_search_38 : decode cX6_search 38 = .ok (.aload_n 0, 1) := by decide +kernel
theorem dX6_search_39 : decode cX6_search 39 = .ok (.getfield 32, 3) := by decide +kernel
theorem dX6_search_42 : decode cX6_search 42 = .ok (.invokevirtual 70, 3) := by decide +kernel
theorem dX6_search_45 : decode cX6_search 45 = .ok (.istore_n 3, 1) := by decide +kernel
theorem dX6_search_46 : decode cX6_search 46 = .ok (.aload_n 0, 1) := by decide +kernel
theorem dX6_search_47 : decode cX6_search 47 = .ok (.getfield 32, 3) := by decide +kernel
theorem dX6_search_50 : decode cX6_search 50 = .ok (.aload_n 0, 1) := by decide +kernel
theorem dX6_search_51 : decode cX6_search 51 = .ok (.getfield 45, 3) := by decide +kernel
theorem dX6_search_54 : decode cX6_search 54 = .ok (.iconst 0, 1) := by decide +kernel
theorem dX6_search_55 : decode cX6_search 55 = .ok (.iload_n 3, 1) := by decide +kernel
theorem dX6_search_56 : decode cX6_search 56 = .ok (.invokevirtual 74, 3) := by decide +kernel
theorem dX6_search_59 : decode cX6_search 59 = .ok (.ifCond .eq 12, 3) := by decide +kernel
theorem dX6_search_62 : decode cX6_search 62 = .ok (.aload_n 0, 1) := by decide +kernel
theorem dX6_search_63 : decode cX6_search 63 = .ok (.aload_n 1, 1) := by decide +kernel
theorem dX6_search_64 : decode cX6_search 64 = .ok (.iconst 0, 1) := by decide +kernel
theorem dX6_search_65 : decode cX6_search 65 = .ok (.iconst 0, 1) := by decide +kernel
theorem dX6_search_66 : decode cX6_search 66 = .ok (.iconst 0, 1) := by decide +kernel
theorem dX6_search_67 : decode cX6_search 67 = .ok (.iload_n 3, 1) := by decide +kernel
theorem dX6_search_68 : decode cX6_search 68 = .ok (.invokestatic 78, 3) := by decide +kernel
theorem dX6_search_71 : decode cX6_search 71 = .ok (.return_, 1) := by decide +kernel
theorem dX6_lay_0 : decode cX6_lay 0 = .ok (.aload_n 0, 1) := by decide +kernel
theorem dX6_lay_1 : decode cX6_lay 1 = .ok (.ldc 58, 2) := by decide +kernel
theorem dX6_lay_3 : decode cX6_lay 3 = .ok (.putfield 36, 3) := by decide +kernel
theorem dX6_lay_6 : decode cX6_lay 6 = .ok (.aload_n 0, 1) := by decide +kernel
theorem dX6_lay_7 : decode cX6_lay 7 = .ok (.getfield 42, 3) := by decide +kernel
theorem dX6_lay_10 : decode cX6_lay 10 = .ok (.iconst 0, 1) := by decide +kernel
theorem dX6_lay_11 : decode cX6_lay 11 = .ok (.invokestatic 82, 3) := by decide +kernel
theorem dX6_lay_14 : decode cX6_lay 14 = .ok (.aload_n 0, 1) := by decide +kernel
theorem dX6_lay_15 : decode cX6_lay 15 = .ok (.getfield 45, 3) := by decide +kernel
theorem dX6_lay_18 : decode cX6_lay 18 = .ok (.iconst 0, 1) := by decide +kernel
theorem dX6_lay_19 : decode cX6_lay 19 = .ok (.invokestatic 82, 3) := by decide +kernel
theorem dX6_lay_22 : decode cX6_lay 22 = .ok (.iconst 0, 1) := by decide +kernel
theorem dX6_lay_23 : decode cX6_lay 23 = .ok (.istore_n 2, 1) := by decide +kernel
theorem dX6_lay_24 : decode cX6_lay 24 = .ok (.iload_n 2, 1) := by decide +kernel
theorem dX6_lay_25 : decode cX6_lay 25 = .ok (.aload_n 1, 1) := by decide +kernel
theorem dX6_lay_26 : decode cX6_lay 26 = .ok (.getfield 88, 3) := by decide +kernel
theorem dX6_lay_29 : decode cX6_lay 29 = .ok (.if_icmp .ge 39, 3) := by decide +kernel
theorem dX6_lay_32 : decode cX6_lay 32 = .ok (.aload_n 0, 1) := by decide +kernel
theorem dX6_lay_33 : decode cX6_lay 33 = .ok (.aload_n 0, 1) := by decide +kernel
theorem dX6_lay_34 : decode cX6_lay 34 = .ok (.getfield 36, 3) := by decide +kernel
theorem dX6_lay_37 : decode cX6_lay 37 = .ok (.aload_n 1, 1) := by decide +kernel
theorem dX6_lay_38 : decode cX6_lay 38 = .ok (.iload_n 2, 1) := by decide +kernel
theorem dX6_lay_39 : decode cX6_lay 39 = .ok (.invokevirtual 91, 3) := by decide +kernel
theorem dX6_lay_42 : decode cX6_lay 42 = .ok (.invokestatic 94, 3) := by decide +kernel
theorem dX6_lay_45 : decode cX6_lay 45 = .ok (.putfield 36, 3) := by decide +kernel
theorem dX6_lay_48 : decode cX6_lay 48 = .ok (.aload_n 1, 1) := by decide +kernel
theorem dX6_lay_49 : decode cX6_lay 49 = .ok (.iload_n 2, 1) := by decide +kernel
theorem dX6_lay_50 : decode cX6_lay 50 = .ok (.aload_n 0, 1) := by decide +kernel
theorem dX6_lay_51 : decode cX6_lay 51 = .ok (.getfield 42, 3) := by decide +kernel
theorem dX6_lay_54 : decode cX6_lay 54 = .ok (.iload_n 2, 1) := by decide +kernel
theorem dX6_lay_55 : decode cX6_lay 55 = .ok (.iconst 0, 1) := by decide +kernel
theorem dX6_lay_56 : decode cX6_lay 56 = .ok (.invokestatic 100, 3) := by decide +kernel
theorem dX6_lay_59 : decode cX6_lay 59 = .ok (.invokevirtual 103, 3) := by decide +kernel
theorem dX6_lay_62 : decode cX6_lay 62 = .ok (.iinc 2 1, 3) := by decide +kernel
theorem dX6_lay_65 : decode cX6_lay 65 = .ok (.goto (-41), 3) := by decide +kernel
theorem dX6_lay_68 : decode cX6_lay 68 = .ok (.aload_n 1, 1) := by decide +kernel
theorem dX6_lay_69 : decode cX6_lay 69 = .ok (.getfield 59, 3) := by decide +kernel
theorem dX6_lay_72 : decode cX6_lay 72 = .ok (.iconst 1, 1) := by decide +kernel
theorem dX6_lay_73 : decode cX6_lay 73 = .ok (.isub, 1) := by decide +kernel
theorem dX6_lay_74 : decode cX6_lay 74 = .ok (.istore_n 2, 1) := by decide +kernel
theorem dX6_lay_75 : decode cX6_lay 75 = .ok (.iload_n 2, 1) := by decide +kernel
theorem dX6_lay_76 : decode cX6_lay 76 = .ok (.ifCond .lt 64, 3) := by decide +kernel
theorem dX6_lay_79 : decode cX6_lay 79 = .ok (.iconst 0, 1) := by decide +kernel
theorem dX6_lay_80 : decode cX6_lay 80 = .ok (.istore_n 3, 1) := by decide +kernel
theorem dX6_lay_81 : decode cX6_lay 81 = .ok (.iload_n 3, 1) := by decide +kernel
theorem dX6_lay_82 : decode cX6_lay 82 = .ok (.aload_n 1, 1) := by decide +kernel
theorem dX6_lay_83 : decode cX6_lay 83 = .ok (.getfield 59, 3) := by decide +kernel
theorem dX6_lay_86 : decode cX6_lay 86 = .ok (.if_icmp .ge 48, 3) := by decide +kernel
theorem dX6_lay_89 : decode cX6_lay 89 = .ok (.aload_n 0, 1) := by decide +kernel
theorem dX6_lay_90 : decode cX6_lay 90 = .ok (.aload_n 1, 1) := by decide +kernel
theorem dX6_lay_91 : decode cX6_lay 91 = .ok (.getfield 88, 3) := by decide +kernel
theorem dX6_lay_94 : decode cX6_lay 94 = .ok (.iload_n 2, 1) := by decide +kernel
theorem dX6_lay_95 : decode cX6_lay 95 = .ok (.iload_n 3, 1) := by decide +kernel
theorem dX6_lay_96 : decode cX6_lay 96 = .ok (.invokevirtual 107, 3) := by decide +kernel
theorem dX6_lay_99 : decode cX6_lay 99 = .ok (.istore 4, 2) := by decide +kernel
theorem dX6_lay_101 : decode cX6_lay 101 = .ok (.aload_n 0, 1) := by decide +kernel
theorem dX6_lay_102 : decode cX6_lay 102 = .ok (.getfield 45, 3) := by decide +kernel
theorem dX6_lay_105 : decode cX6_lay 105 = .ok (.iload_n 2, 1) := by decide +kernel
theorem dX6_lay_106 : decode cX6_lay 106 = .ok (.bipush 16, 2) := by decide +kernel
theorem dX6_lay_108 : decode cX6_lay 108 = .ok (.imul, 1) := by decide +kernel
theorem dX6_lay_109 : decode cX6_lay 109 = .ok (.iload_n 3, 1) := by decide +kernel
theorem dX6_lay_110 : decode cX6_lay 110 = .ok (.iadd, 1) := by decide +kernel
theorem dX6_lay_111 : decode cX6_lay 111 = .ok (.aload_n 0, 1) := by decide +kernel
theorem dX6_lay_112 : decode cX6_lay 112 = .ok (.getfield 45, 3) := by decide +kernel
theorem dX6_lay_115 : decode cX6_lay 115 = .ok (.iload_n 2, 1) := by decide +kernel
theorem dX6_lay_116 : decode cX6_lay 116 = .ok (.iconst 1, 1) := by decide +kernel
theorem dX6_lay_117 : decode cX6_lay 117 = .ok (.iadd, 1) := by decide +kernel
theorem dX6_lay_118 : decode cX6_lay 118 = .ok (.bipush 16, 2) := by decide +kernel
theorem dX6_lay_120 : decode cX6_lay 120 = .ok (.imul, 1) := by decide +kernel
theorem dX6_lay_121 : decode cX6_lay 121 = .ok (.iload_n 3, 1) := by decide +kernel
theorem dX6_lay_122 : decode cX6_lay 122 = .ok (.iadd, 1) := by decide +kernel
theorem dX6_lay_123 : decode cX6_lay 123 = .ok (.iaload, 1) := by decide +kernel
theorem dX6_lay_124 : decode cX6_lay 124 = .ok (.iload 4, 2) := by decide +kernel
theorem dX6_lay_126 : decode cX6_lay 126 = .ok (.iadd, 1) := by decide +kernel
theorem dX6_lay_127 : decode cX6_lay 127 = .ok (.iastore, 1) := by decide +kernel
theorem dX6_lay_128 : decode cX6_lay 128 = .ok (.iinc 3 1, 3) := by decide +kernel
theorem dX6_lay_131 : decode cX6_lay 131 = .ok (.goto (-50), 3) := by decide +kernel
theorem dX6_lay_134 : decode cX6_lay 134 = .ok (.iinc 2 (-1), 3) := by decide +kernel
theorem dX6_lay_137 : decode cX6_lay 137 = .ok (.goto (-62), 3) := by decide +kernel
theorem dX6_lay_140 : decode cX6_lay 140 = .ok (.return_, 1) := by decide +kernel
theorem dX6_rowOf_0 : decode cX6_rowOf 0 = .ok (.iload_n 0, 1) := by decide +kernel
theorem dX6_rowOf_1 : decode cX6_rowOf 1 = .ok (.bipush 8, 2) := by decide +kernel
theorem dX6_rowOf_3 : decode cX6_rowOf 3 = .ok (.imul, 1) := by decide +kernel
theorem dX6_rowOf_4 : decode cX6_rowOf 4 = .ok (.iload_n 1, 1) := by decide +kernel
theorem dX6_rowOf_5 : decode cX6_rowOf 5 = .ok (.iadd, 1) := by decide +kernel
theorem dX6_rowOf_6 : decode cX6_rowOf 6 = .ok (.bipush 16, 2) := by decide +kernel
theorem dX6_rowOf_8 : decode cX6_rowOf 8 = .ok (.imul, 1) := by decide +kernel
theorem dX6_rowOf_9 : decode cX6_rowOf 9 = .ok (.ireturn, 1) := by decide +kernel
theorem dX6_brightest_0 : decode cX6_brightest 0 = .ok (.iconst 0, 1) := by decide +kernel
theorem dX6_brightest_1 : decode cX6_brightest 1 = .ok (.istore 4, 2) := by decide +kernel
theorem dX6_brightest_3 : decode cX6_brightest 3 = .ok (.iconst 0, 1) := by decide +kernel
theorem dX6_brightest_4 : decode cX6_brightest 4 = .ok (.istore 5, 2) := by decide +kernel
theorem dX6_brightest_6 : decode cX6_brightest 6 = .ok (.iload 5, 2) := by decide +kernel
theorem dX6_brightest_8 : decode cX6_brightest 8 = .ok (.iload_n 1, 1) := by decide +kernel
theorem dX6_brightest_9 : decode cX6_brightest 9 = .ok (.if_icmp .ge 29, 3) := by decide +kernel
theorem dX6_brightest_12 : decode cX6_brightest 12 = .ok (.iload 4, 2) := by decide +kernel
theorem dX6_brightest_14 : decode cX6_brightest 14 = .ok (.aload_n 0, 1) := by decide +kernel
theorem dX6_brightest_15 : decode cX6_brightest 15 = .ok (.getfield 42, 3) := by decide +kernel
theorem dX6_brightest_18 : decode cX6_brightest 18 = .ok (.iload 5, 2) := by decide +kernel
theorem dX6_brightest_20 : decode cX6_brightest 20 = .ok (.iload_n 2, 1) := by decide +kernel
theorem dX6_brightest_21 : decode cX6_brightest 21 = .ok (.invokestatic 100, 3) := by decide +kernel
theorem dX6_brightest_24 : decode cX6_brightest 24 = .ok (.iload_n 3, 1) := by decide +kernel
theorem dX6_brightest_25 : decode cX6_brightest 25 = .ok (.iadd, 1) := by decide +kernel
theorem dX6_brightest_26 : decode cX6_brightest 26 = .ok (.iaload, 1) := by decide +kernel
theorem dX6_brightest_27 : decode cX6_brightest 27 = .ok (.invokestatic 111, 3) := by decide +kernel
theorem dX6_brightest_30 : decode cX6_brightest 30 = .ok (.istore 4, 2) := by decide +kernel
theorem dX6_brightest_32 : decode cX6_brightest 32 = .ok (.iinc 5 1, 3) := by decide +kernel
theorem dX6_brightest_35 : decode cX6_brightest 35 = .ok (.goto (-29), 3) := by decide +kernel
theorem dX6_brightest_38 : decode cX6_brightest 38 = .ok (.iload 4, 2) := by decide +kernel
theorem dX6_brightest_40 : decode cX6_brightest 40 = .ok (.ireturn, 1) := by decide +kernel
theorem dX6_isBetter_0 : decode cX6_isBetter 0 = .ok (.iload_n 1, 1) := by decide +kernel
theorem dX6_isBetter_1 : decode cX6_isBetter 1 = .ok (.aload_n 0, 1) := by decide +kernel
theorem dX6_isBetter_2 : decode cX6_isBetter 2 = .ok (.getfield 9, 3) := by decide +kernel
theorem dX6_isBetter_5 : decode cX6_isBetter 5 = .ok (.if_icmp .lt 19, 3) := by decide +kernel
theorem dX6_isBetter_8 : decode cX6_isBetter 8 = .ok (.iload_n 1, 1) := by decide +kernel
theorem dX6_isBetter_9 : decode cX6_isBetter 9 = .ok (.aload_n 0, 1) := by decide +kernel
theorem dX6_isBetter_10 : decode cX6_isBetter 10 = .ok (.getfield 9, 3) := by decide +kernel
theorem dX6_isBetter_13 : decode cX6_isBetter 13 = .ok (.if_icmp .ne 15, 3) := by decide +kernel
theorem dX6_isBetter_16 : decode cX6_isBetter 16 = .ok (.iload_n 2, 1) := by decide +kernel
theorem dX6_isBetter_17 : decode cX6_isBetter 17 = .ok (.aload_n 0, 1) := by decide +kernel
theorem dX6_isBetter_18 : decode cX6_isBetter 18 = .ok (.getfield 15, 3) := by decide +kernel
theorem dX6_isBetter_21 : decode cX6_isBetter 21 = .ok (.if_icmp .ge 7, 3) := by decide +kernel
theorem dX6_isBetter_24 : decode cX6_isBetter 24 = .ok (.iconst 1, 1) := by decide +kernel
theorem dX6_isBetter_25 : decode cX6_isBetter 25 = .ok (.goto 4, 3) := by decide +kernel
theorem dX6_isBetter_28 : decode cX6_isBetter 28 = .ok (.iconst 0, 1) := by decide +kernel
theorem dX6_isBetter_29 : decode cX6_isBetter 29 = .ok (.ireturn, 1) := by decide +kernel
theorem dX6_keep_0 : decode cX6_keep 0 = .ok (.aload_n 0, 1) := by decide +kernel
theorem dX6_keep_1 : decode cX6_keep 1 = .ok (.iload_n 2, 1) := by decide +kernel
theorem dX6_keep_2 : decode cX6_keep 2 = .ok (.putfield 9, 3) := by decide +kernel
theorem dX6_keep_5 : decode cX6_keep 5 = .ok (.aload_n 0, 1) := by decide +kernel
theorem dX6_keep_6 : decode cX6_keep 6 = .ok (.iload_n 3, 1) := by decide +kernel
theorem dX6_keep_7 : decode cX6_keep 7 = .ok (.putfield 15, 3) := by decide +kernel
theorem dX6_keep_10 : decode cX6_keep 10 = .ok (.iconst 0, 1) := by decide +kernel
theorem dX6_keep_11 : decode cX6_keep 11 = .ok (.istore 4, 2) := by decide +kernel
theorem dX6_keep_13 : decode cX6_keep 13 = .ok (.iload 4, 2) := by decide +kernel
theorem dX6_keep_15 : decode cX6_keep 15 = .ok (.bipush 8, 2) := by decide +kernel
theorem dX6_keep_17 : decode cX6_keep 17 = .ok (.if_icmp .ge 33, 3) := by decide +kernel
theorem dX6_keep_20 : decode cX6_keep 20 = .ok (.aload_n 0, 1) := by decide +kernel
theorem dX6_keep_21 : decode cX6_keep 21 = .ok (.getfield 18, 3) := by decide +kernel
theorem dX6_keep_24 : decode cX6_keep 24 = .ok (.iload 4, 2) := by decide +kernel
theorem dX6_keep_26 : decode cX6_keep 26 = .ok (.iload 4, 2) := by decide +kernel
theorem dX6_keep_28 : decode cX6_keep 28 = .ok (.iload_n 1, 1) := by decide +kernel
theorem dX6_keep_29 : decode cX6_keep 29 = .ok (.if_icmp .ge 13, 3) := by decide +kernel
theorem dX6_keep_32 : decode cX6_keep 32 = .ok (.aload_n 0, 1) := by decide +kernel
theorem dX6_keep_33 : decode cX6_keep 33 = .ok (.getfield 39, 3) := by decide +kernel
theorem dX6_keep_36 : decode cX6_keep 36 = .ok (.iload 4, 2) := by decide +kernel
theorem dX6_keep_38 : decode cX6_keep 38 = .ok (.iaload, 1) := by decide +kernel
theorem dX6_keep_39 : decode cX6_keep 39 = .ok (.goto 4, 3) := by decide +kernel
theorem dX6_keep_42 : decode cX6_keep 42 = .ok (.iconst (-1), 1) := by decide +kernel
theorem dX6_keep_43 : decode cX6_keep 43 = .ok (.iastore, 1) := by decide +kernel
theorem dX6_keep_44 : decode cX6_keep 44 = .ok (.iinc 4 1, 3) := by decide +kernel
theorem dX6_keep_47 : decode cX6_keep 47 = .ok (.goto (-34), 3) := by decide +kernel
theorem dX6_keep_50 : decode cX6_keep 50 = .ok (.return_, 1) := by decide +kernel
theorem dX6_seek_0 : decode cX6_seek 0 = .ok (.iload 5, 2) := by decide +kernel
theorem dX6_seek_2 : decode cX6_seek 2 = .ok (.ifCond .ne 22, 3) := by decide +kernel
theorem dX6_seek_5 : decode cX6_seek 5 = .ok (.aload_n 0, 1) := by decide +kernel
theorem dX6_seek_6 : decode cX6_seek 6 = .ok (.iload_n 3, 1) := by decide +kernel
theorem dX6_seek_7 : decode cX6_seek 7 = .ok (.iload 4, 2) := by decide +kernel
theorem dX6_seek_9 : decode cX6_seek 9 = .ok (.invokevirtual 114, 3) := by decide +kernel
theorem dX6_seek_12 : decode cX6_seek 12 = .ok (.ifCond .eq 11, 3) := by decide +kernel
theorem dX6_seek_15 : decode cX6_seek 15 = .ok (.aload_n 0, 1) := by decide +kernel
theorem dX6_seek_16 : decode cX6_seek 16 = .ok (.iload_n 2, 1) := by decide +kernel
theorem dX6_seek_17 : decode cX6_seek 17 = .ok (.iload_n 3, 1) := by decide +kernel
theorem dX6_seek_18 : decode cX6_seek 18 = .ok (.iload 4, 2) := by decide +kernel
theorem dX6_seek_20 : decode cX6_seek 20 = .ok (.invokevirtual 118, 3) := by decide +kernel
theorem dX6_seek_23 : decode cX6_seek 23 = .ok (.return_, 1) := by decide +kernel
theorem dX6_seek_24 : decode cX6_seek 24 = .ok (.iload_n 2, 1) := by decide +kernel
theorem dX6_seek_25 : decode cX6_seek 25 = .ok (.aload_n 1, 1) := by decide +kernel
theorem dX6_seek_26 : decode cX6_seek 26 = .ok (.getfield 59, 3) := by decide +kernel
theorem dX6_seek_29 : decode cX6_seek 29 = .ok (.if_icmp .ge 20, 3) := by decide +kernel
theorem dX6_seek_32 : decode cX6_seek 32 = .ok (.aload_n 0, 1) := by decide +kernel
theorem dX6_seek_33 : decode cX6_seek 33 = .ok (.iload_n 3, 1) := by decide +kernel
theorem dX6_seek_34 : decode cX6_seek 34 = .ok (.aload_n 0, 1) := by decide +kernel
theorem dX6_seek_35 : decode cX6_seek 35 = .ok (.getfield 36, 3) := by decide +kernel
theorem dX6_seek_38 : decode cX6_seek 38 = .ok (.iadd, 1) := by decide +kernel
theorem dX6_seek_39 : decode cX6_seek 39 = .ok (.iload 4, 2) := by decide +kernel
theorem dX6_seek_41 : decode cX6_seek 41 = .ok (.iconst 1, 1) := by decide +kernel
theorem dX6_seek_42 : decode cX6_seek 42 = .ok (.iadd, 1) := by decide +kernel
theorem dX6_seek_43 : decode cX6_seek 43 = .ok (.invokevirtual 114, 3) := by decide +kernel
theorem dX6_seek_46 : decode cX6_seek 46 = .ok (.ifCond .ne 4, 3) := by decide +kernel
theorem dX6_seek_49 : decode cX6_seek 49 = .ok (.return_, 1) := by decide +kernel
theorem dX6_seek_50 : decode cX6_seek 50 = .ok (.iload 5, 2) := by decide +kernel
theorem dX6_seek_52 : decode cX6_seek 52 = .ok (.aload_n 1, 1) := by decide +kernel
theorem dX6_seek_53 : decode cX6_seek 53 = .ok (.getfield 122, 3) := by decide +kernel
theorem dX6_seek_56 : decode cX6_seek 56 = .ok (.iload_n 2, 1) := by decide +kernel
theorem dX6_seek_57 : decode cX6_seek 57 = .ok (.iaload, 1) := by decide +kernel
theorem dX6_seek_58 : decode cX6_seek 58 = .ok (.iand, 1) := by decide +kernel
theorem dX6_seek_59 : decode cX6_seek 59 = .ok (.istore 6, 2) := by decide +kernel
theorem dX6_seek_61 : decode cX6_seek 61 = .ok (.aload_n 0, 1) := by decide +kernel
theorem dX6_seek_62 : decode cX6_seek 62 = .ok (.getfield 39, 3) := by decide +kernel
theorem dX6_seek_65 : decode cX6_seek 65 = .ok (.iload_n 2, 1) := by decide +kernel
theorem dX6_seek_66 : decode cX6_seek 66 = .ok (.iconst (-1), 1) := by decide +kernel
theorem dX6_seek_67 : decode cX6_seek 67 = .ok (.iastore, 1) := by decide +kernel
theorem dX6_seek_68 : decode cX6_seek 68 = .ok (.aload_n 0, 1) := by decide +kernel
theorem dX6_seek_69 : decode cX6_seek 69 = .ok (.getfield 32, 3) := by decide +kernel
theorem dX6_seek_72 : decode cX6_seek 72 = .ok (.aload_n 0, 1) := by decide +kernel
theorem dX6_seek_73 : decode cX6_seek 73 = .ok (.getfield 45, 3) := by decide +kernel
theorem dX6_seek_76 : decode cX6_seek 76 = .ok (.iload_n 2, 1) := by decide +kernel
theorem dX6_seek_77 : decode cX6_seek 77 = .ok (.iconst 1, 1) := by decide +kernel
theorem dX6_seek_78 : decode cX6_seek 78 = .ok (.iadd, 1) := by decide +kernel
theorem dX6_seek_79 : decode cX6_seek 79 = .ok (.bipush 16, 2) := by decide +kernel
theorem dX6_seek_81 : decode cX6_seek 81 = .ok (.imul, 1) := by decide +kernel
theorem dX6_seek_82 : decode cX6_seek 82 = .ok (.iload 6, 2) := by decide +kernel
theorem dX6_seek_84 : decode cX6_seek 84 = .ok (.invokevirtual 74, 3) := by decide +kernel
theorem dX6_seek_87 : decode cX6_seek 87 = .ok (.ifCond .eq 16, 3) := by decide +kernel
theorem dX6_seek_90 : decode cX6_seek 90 = .ok (.aload_n 0, 1) := by decide +kernel
theorem dX6_seek_91 : decode cX6_seek 91 = .ok (.aload_n 1, 1) := by decide +kernel
theorem dX6_seek_92 : decode cX6_seek 92 = .ok (.iload_n 2, 1) := by decide +kernel
theorem dX6_seek_93 : decode cX6_seek 93 = .ok (.iconst 1, 1) := by decide +kernel
theorem dX6_seek_94 : decode cX6_seek 94 = .ok (.iadd, 1) := by decide +kernel
theorem dX6_seek_95 : decode cX6_seek 95 = .ok (.iload_n 3, 1) := by decide +kernel
theorem dX6_seek_96 : decode cX6_seek 96 = .ok (.iload 4, 2) := by decide +kernel
theorem dX6_seek_98 : decode cX6_seek 98 = .ok (.iload 5, 2) := by decide +kernel
theorem dX6_seek_100 : decode cX6_seek 100 = .ok (.invokestatic 78, 3) := by decide +kernel
theorem dX6_seek_103 : decode cX6_seek 103 = .ok (.iconst 0, 1) := by decide +kernel
theorem dX6_seek_104 : decode cX6_seek 104 = .ok (.istore 7, 2) := by decide +kernel
theorem dX6_seek_106 : decode cX6_seek 106 = .ok (.iload 7, 2) := by decide +kernel
theorem dX6_seek_108 : decode cX6_seek 108 = .ok (.aload_n 1, 1) := by decide +kernel
theorem dX6_seek_109 : decode cX6_seek 109 = .ok (.getfield 88, 3) := by decide +kernel
theorem dX6_seek_112 : decode cX6_seek 112 = .ok (.if_icmp .ge 117, 3) := by decide +kernel
theorem dX6_seek_115 : decode cX6_seek 115 = .ok (.iload 6, 2) := by decide +kernel
theorem dX6_seek_117 : decode cX6_seek 117 = .ok (.ifCond .eq 112, 3) := by decide +kernel
theorem dX6_seek_120 : decode cX6_seek 120 = .ok (.aload_n 0, 1) := by decide +kernel
theorem dX6_seek_121 : decode cX6_seek 121 = .ok (.getfield 32, 3) := by decide +kernel
theorem dX6_seek_124 : decode cX6_seek 124 = .ok (.aload_n 0, 1) := by decide +kernel
theorem dX6_seek_125 : decode cX6_seek 125 = .ok (.getfield 42, 3) := by decide +kernel
theorem dX6_seek_128 : decode cX6_seek 128 = .ok (.iload 7, 2) := by decide +kernel
theorem dX6_seek_130 : decode cX6_seek 130 = .ok (.iload_n 2, 1) := by decide +kernel
theorem dX6_seek_131 : decode cX6_seek 131 = .ok (.invokestatic 100, 3) := by decide +kernel
theorem dX6_seek_134 : decode cX6_seek 134 = .ok (.iconst 1, 1) := by decide +kernel
theorem dX6_seek_135 : decode cX6_seek 135 = .ok (.invokevirtual 125, 3) := by decide +kernel
theorem dX6_seek_138 : decode cX6_seek 138 = .ok (.aload_n 0, 1) := by decide +kernel
theorem dX6_seek_139 : decode cX6_seek 139 = .ok (.getfield 39, 3) := by decide +kernel
theorem dX6_seek_142 : decode cX6_seek 142 = .ok (.iload_n 2, 1) := by decide +kernel
theorem dX6_seek_143 : decode cX6_seek 143 = .ok (.iload 7, 2) := by decide +kernel
theorem dX6_seek_145 : decode cX6_seek 145 = .ok (.iastore, 1) := by decide +kernel
theorem dX6_seek_146 : decode cX6_seek 146 = .ok (.aload_n 0, 1) := by decide +kernel
theorem dX6_seek_147 : decode cX6_seek 147 = .ok (.getfield 32, 3) := by decide +kernel
theorem dX6_seek_150 : decode cX6_seek 150 = .ok (.invokevirtual 129, 3) := by decide +kernel
theorem dX6_seek_153 : decode cX6_seek 153 = .ok (.ifCond .eq 52, 3) := by decide +kernel
theorem dX6_seek_156 : decode cX6_seek 156 = .ok (.aload_n 0, 1) := by decide +kernel
theorem dX6_seek_157 : decode cX6_seek 157 = .ok (.getfield 32, 3) := by decide +kernel
theorem dX6_seek_160 : decode cX6_seek 160 = .ok (.aload_n 0, 1) := by decide +kernel
theorem dX6_seek_161 : decode cX6_seek 161 = .ok (.getfield 45, 3) := by decide +kernel
theorem dX6_seek_164 : decode cX6_seek 164 = .ok (.iload_n 2, 1) := by decide +kernel
theorem dX6_seek_165 : decode cX6_seek 165 = .ok (.iconst 1, 1) := by decide +kernel
theorem dX6_seek_166 : decode cX6_seek 166 = .ok (.iadd, 1) := by decide +kernel
theorem dX6_seek_167 : decode cX6_seek 167 = .ok (.bipush 16, 2) := by decide +kernel
theorem dX6_seek_169 : decode cX6_seek 169 = .ok (.imul, 1) := by decide +kernel
theorem dX6_seek_170 : decode cX6_seek 170 = .ok (.iload 6, 2) := by decide +kernel
theorem dX6_seek_172 : decode cX6_seek 172 = .ok (.invokevirtual 74, 3) := by decide +kernel
theorem dX6_seek_175 : decode cX6_seek 175 = .ok (.ifCond .eq 30, 3) := by decide +kernel
theorem dX6_seek_178 : decode cX6_seek 178 = .ok (.aload_n 0, 1) := by decide +kernel
theorem dX6_seek_179 : decode cX6_seek 179 = .ok (.aload_n 1, 1) := by decide +kernel
theorem dX6_seek_180 : decode cX6_seek 180 = .ok (.iload_n 2, 1) := by decide +kernel
theorem dX6_seek_181 : decode cX6_seek 181 = .ok (.iconst 1, 1) := by decide +kernel
theorem dX6_seek_182 : decode cX6_seek 182 = .ok (.iadd, 1) := by decide +kernel
theorem dX6_seek_183 : decode cX6_seek 183 = .ok (.iload_n 3, 1) := by decide +kernel
theorem dX6_seek_184 : decode cX6_seek 184 = .ok (.aload_n 1, 1) := by decide +kernel
theorem dX6_seek_185 : decode cX6_seek 185 = .ok (.iload 7, 2) := by decide +kernel
theorem dX6_seek_187 : decode cX6_seek 187 = .ok (.invokevirtual 91, 3) := by decide +kernel
theorem dX6_seek_190 : decode cX6_seek 190 = .ok (.iadd, 1) := by decide +kernel
theorem dX6_seek_191 : decode cX6_seek 191 = .ok (.iload 4, 2) := by decide +kernel
theorem dX6_seek_193 : decode cX6_seek 193 = .ok (.iconst 1, 1) := by decide +kernel
theorem dX6_seek_194 : decode cX6_seek 194 = .ok (.iadd, 1) := by decide +kernel
theorem dX6_seek_195 : decode cX6_seek 195 = .ok (.aload_n 0, 1) := by decide +kernel
theorem dX6_seek_196 : decode cX6_seek 196 = .ok (.getfield 32, 3) := by decide +kernel
theorem dX6_seek_199 : decode cX6_seek 199 = .ok (.invokevirtual 70, 3) := by decide +kernel
theorem dX6_seek_202 : decode cX6_seek 202 = .ok (.invokestatic 78, 3) := by decide +kernel
theorem dX6_seek_205 : decode cX6_seek 205 = .ok (.aload_n 0, 1) := by decide +kernel
theorem dX6_seek_206 : decode cX6_seek 206 = .ok (.getfield 32, 3) := by decide +kernel
theorem dX6_seek_209 : decode cX6_seek 209 = .ok (.aload_n 0, 1) := by decide +kernel
theorem dX6_seek_210 : decode cX6_seek 210 = .ok (.getfield 42, 3) := by decide +kernel
theorem dX6_seek_213 : decode cX6_seek 213 = .ok (.iload 7, 2) := by decide +kernel
theorem dX6_seek_215 : decode cX6_seek 215 = .ok (.iload_n 2, 1) := by decide +kernel
theorem dX6_seek_216 : decode cX6_seek 216 = .ok (.invokestatic 100, 3) := by decide +kernel
theorem dX6_seek_219 : decode cX6_seek 219 = .ok (.iconst (-1), 1) := by decide +kernel
theorem dX6_seek_220 : decode cX6_seek 220 = .ok (.invokevirtual 125, 3) := by decide +kernel
theorem dX6_seek_223 : decode cX6_seek 223 = .ok (.iinc 7 1, 3) := by decide +kernel
theorem dX6_seek_226 : decode cX6_seek 226 = .ok (.goto (-120), 3) := by decide +kernel
theorem dX6_seek_229 : decode cX6_seek 229 = .ok (.return_, 1) := by decide +kernel
theorem dX7_init_0 : decode cX7_init 0 = .ok (.aload_n 0, 1) := by decide +kernel
theorem dX7_init_1 : decode cX7_init 1 = .ok (.invokespecial 3, 3) := by decide +kernel
theorem dX7_init_4 : decode cX7_init 4 = .ok (.aload_n 0, 1) := by decide +kernel
theorem dX7_init_5 : decode cX7_init 5 = .ok (.iconst 0, 1) := by decide +kernel
theorem dX7_init_6 : decode cX7_init 6 = .ok (.putfield 9, 3) := by decide +kernel
theorem dX7_init_9 : decode cX7_init 9 = .ok (.aload_n 0, 1) := by decide +kernel
theorem dX7_init_10 : decode cX7_init 10 = .ok (.iconst (-1), 1) := by decide +kernel
theorem dX7_init_11 : decode cX7_init 11 = .ok (.putfield 15, 3) := by decide +kernel
theorem dX7_init_14 : decode cX7_init 14 = .ok (.aload_n 0, 1) := by decide +kernel
theorem dX7_init_15 : decode cX7_init 15 = .ok (.iconst 0, 1) := by decide +kernel
theorem dX7_init_16 : decode cX7_init 16 = .ok (.putfield 18, 3) := by decide +kernel
theorem dX7_init_19 : decode cX7_init 19 = .ok (.aload_n 0, 1) := by decide +kernel
theorem dX7_init_20 : decode cX7_init 20 = .ok (.iconst 0, 1) := by decide +kernel
theorem dX7_init_21 : decode cX7_init 21 = .ok (.putfield 21, 3) := by decide +kernel
theorem dX7_init_24 : decode cX7_init 24 = .ok (.aload_n 0, 1) := by decide +kernel
theorem dX7_init_25 : decode cX7_init 25 = .ok (.iconst 0, 1) := by decide +kernel
theorem dX7_init_26 : decode cX7_init 26 = .ok (.putfield 24, 3) := by decide +kernel
theorem dX7_init_29 : decode cX7_init 29 = .ok (.aload_n 0, 1) := by decide +kernel
theorem dX7_init_30 : decode cX7_init 30 = .ok (.iconst 0, 1) := by decide +kernel
theorem dX7_init_31 : decode cX7_init 31 = .ok (.putfield 27, 3) := by decide +kernel
theorem dX7_init_34 : decode cX7_init 34 = .ok (.aload_n 0, 1) := by decide +kernel
theorem dX7_init_35 : decode cX7_init 35 = .ok (.new 30, 3) := by decide +kernel
theorem dX7_init_38 : decode cX7_init 38 = .ok (.dup, 1) := by decide +kernel
theorem dX7_init_39 : decode cX7_init 39 = .ok (.invokespecial 32, 3) := by decide +kernel
theorem dX7_init_42 : decode cX7_init 42 = .ok (.putfield 33, 3) := by decide +kernel
theorem dX7_init_45 : decode cX7_init 45 = .ok (.aload_n 0, 1) := by decide +kernel
theorem dX7_init_46 : decode cX7_init 46 = .ok (.iconst 5, 1) := by decide +kernel
theorem dX7_init_47 : decode cX7_init 47 = .ok (.newarray .int, 2) := by decide +kernel
theorem dX7_init_49 : decode cX7_init 49 = .ok (.putfield 37, 3) := by decide +kernel
theorem dX7_init_52 : decode cX7_init 52 = .ok (.aload_n 0, 1) := by decide +kernel
theorem dX7_init_53 : decode cX7_init 53 = .ok (.iconst 0, 1) := by decide +kernel
theorem dX7_init_54 : decode cX7_init 54 = .ok (.putfield 41, 3) := by decide +kernel
theorem dX7_init_57 : decode cX7_init 57 = .ok (.aload_n 0, 1) := by decide +kernel
theorem dX7_init_58 : decode cX7_init 58 = .ok (.aload_n 1, 1) := by decide +kernel
theorem dX7_init_59 : decode cX7_init 59 = .ok (.putfield 44, 3) := by decide +kernel
theorem dX7_init_62 : decode cX7_init 62 = .ok (.aload_n 0, 1) := by decide +kernel
theorem dX7_init_63 : decode cX7_init 63 = .ok (.iload_n 2, 1) := by decide +kernel
theorem dX7_init_64 : decode cX7_init 64 = .ok (.aload_n 1, 1) := by decide +kernel
theorem dX7_init_65 : decode cX7_init 65 = .ok (.arraylength, 1) := by decide +kernel
theorem dX7_init_66 : decode cX7_init 66 = .ok (.invokestatic 48, 3) := by decide +kernel
theorem dX7_init_69 : decode cX7_init 69 = .ok (.putfield 54, 3) := by decide +kernel
theorem dX7_init_72 : decode cX7_init 72 = .ok (.return_, 1) := by decide +kernel
theorem dX7_readHouse_0 : decode cX7_readHouse 0 = .ok (.aload_n 0, 1) := by decide +kernel
theorem dX7_readHouse_1 : decode cX7_readHouse 1 = .ok (.invokevirtual 57, 3) := by decide +kernel
theorem dX7_readHouse_4 : decode cX7_readHouse 4 = .ok (.iconst 0, 1) := by decide +kernel
theorem dX7_readHouse_5 : decode cX7_readHouse 5 = .ok (.istore_n 1, 1) := by decide +kernel
theorem dX7_readHouse_6 : decode cX7_readHouse 6 = .ok (.iload_n 1, 1) := by decide +kernel
theorem dX7_readHouse_7 : decode cX7_readHouse 7 = .ok (.sipush 800, 3) := by decide +kernel
theorem dX7_readHouse_10 : decode cX7_readHouse 10 = .ok (.if_icmp .ge 55, 3) := by decide +kernel
theorem dX7_readHouse_13 : decode cX7_readHouse 13 = .ok (.aload_n 0, 1) := by decide +kernel
theorem dX7_readHouse_14 : decode cX7_readHouse 14 = .ok (.getfield 9, 3) := by decide +kernel
theorem dX7_readHouse_17 : decode cX7_readHouse 17 = .ok (.ifCond .ne 48, 3) := by decide +kernel
theorem dX7_readHouse_20 : decode cX7_readHouse 20 = .ok (.aload_n 0, 1) := by decide +kernel
theorem dX7_readHouse_21 : decode cX7_readHouse 21 = .ok (.getfield 18, 3) := by decide +kernel
theorem dX7_readHouse_24 : decode cX7_readHouse 24 = .ok (.ifCond .eq 41, 3) := by decide +kernel
theorem dX7_readHouse_27 : decode cX7_readHouse 27 = .ok (.aload_n 0, 1) := by decide +kernel
theorem dX7_readHouse_28 : decode cX7_readHouse 28 = .ok (.iconst 0, 1) := by decide +kernel
theorem dX7_readHouse_29 : decode cX7_readHouse 29 = .ok (.putfield 41, 3) := by decide +kernel
theorem dX7_readHouse_32 : decode cX7_readHouse 32 = .ok (.aload_n 0, 1) := by decide +kernel
theorem dX7_readHouse_33 : decode cX7_readHouse 33 = .ok (.invokevirtual 60, 3) := by decide +kernel
theorem dX7_readHouse_36 : decode cX7_readHouse 36 = .ok (.ifCond .eq 23, 3) := by decide +kernel
theorem dX7_readHouse_39 : decode cX7_readHouse 39 = .ok (.aload_n 0, 1) := by decide +kernel
theorem dX7_readHouse_40 : decode cX7_readHouse 40 = .ok (.invokevirtual 64, 3) := by decide +kernel
theorem dX7_readHouse_43 : decode cX7_readHouse 43 = .ok (.ifCond .eq 16, 3) := by decide +kernel
theorem dX7_readHouse_46 : decode cX7_readHouse 46 = .ok (.aload_n 0, 1) := by decide +kernel
theorem dX7_readHouse_47 : decode cX7_readHouse 47 = .ok (.getfield 33, 3) := by decide +kernel
theorem dX7_readHouse_50 : decode cX7_readHouse 50 = .ok (.dup, 1) := by decide +kernel
theorem dX7_readHouse_51 : decode cX7_readHouse 51 = .ok (.getfield 67, 3) := by decide +kernel
theorem dX7_readHouse_54 : decode cX7_readHouse 54 = .ok (.iconst 1, 1) := by decide +kernel
theorem dX7_readHouse_55 : decode cX7_readHouse 55 = .ok (.iadd, 1) := by decide +kernel
theorem dX7_readHouse_56 : decode cX7_readHouse 56 = .ok (.putfield 67, 3) := by decide +kernel
theorem dX7_readHouse_59 : decode cX7_readHouse 59 = .ok (.iinc 1 1, 3) := by decide +kernel
theorem dX7_readHouse_62 : decode cX7_readHouse 62 = .ok (.goto (-56), 3) := by decide +kernel
theorem dX7_readHouse_65 : decode cX7_readHouse 65 = .ok (.aload_n 0, 1) := by decide +kernel
theorem dX7_readHouse_66 : decode cX7_readHouse 66 = .ok (.getfield 9, 3) := by decide +kernel
theorem dX7_readHouse_69 : decode cX7_readHouse 69 = .ok (.ifCond .ne 17, 3) := by decide +kernel
theorem dX7_readHouse_72 : decode cX7_readHouse 72 = .ok (.aload_n 0, 1) := by decide +kernel
theorem dX7_readHouse_73 : decode cX7_readHouse 73 = .ok (.getfield 33, 3) := by decide +kernel
theorem dX7_readHouse_76 : decode cX7_readHouse 76 = .ok (.invokevirtual 70, 3) := by decide +kernel
theorem dX7_readHouse_79 : decode cX7_readHouse 79 = .ok (.aload_n 0, 1) := by decide +kernel
theorem dX7_readHouse_80 : decode cX7_readHouse 80 = .ok (.getfield 33, 3) := by decide +kernel
theorem dX7_readHouse_83 : decode cX7_readHouse 83 = .ok (.invokevirtual 73, 3) := by decide +kernel
theorem dX7_readHouse_86 : decode cX7_readHouse 86 = .ok (.aload_n 0, 1) := by decide +kernel
theorem dX7_readHouse_87 : decode cX7_readHouse 87 = .ok (.getfield 33, 3) := by decide +kernel
theorem dX7_readHouse_90 : decode cX7_readHouse 90 = .ok (.areturn, 1) := by decide +kernel
theorem dX7_readLine_0 : decode cX7_readLine 0 = .ok (.aload_n 0, 1) := by decide +kernel
theorem dX7_readLine_1 : decode cX7_readLine 1 = .ok (.ldc 76, 2) := by decide +kernel
theorem dX7_readLine_3 : decode cX7_readLine 3 = .ok (.invokevirtual 78, 3) := by decide +kernel
theorem dX7_readLine_6 : decode cX7_readLine 6 = .ok (.ifCond .eq 8, 3) := by decide +kernel
theorem dX7_readLine_9 : decode cX7_readLine 9 = .ok (.aload_n 0, 1) := by decide +kernel
theorem dX7_readLine_10 : decode cX7_readLine 10 = .ok (.invokevirtual 82, 3) := by decide +kernel
theorem dX7_readLine_13 : decode cX7_readLine 13 = .ok (.ireturn, 1) := by decide +kernel
theorem dX7_readLine_14 : decode cX7_readLine 14 = .ok (.aload_n 0, 1) := by decide +kernel
theorem dX7_readLine_15 : decode cX7_readLine 15 = .ok (.ldc 85, 2) := by decide +kernel
theorem dX7_readLine_17 : decode cX7_readLine 17 = .ok (.invokevirtual 78, 3) := by decide +kernel
theorem dX7_readLine_20 : decode cX7_readLine 20 = .ok (.ifCond .eq 8, 3) := by decide +kernel
theorem dX7_readLine_23 : decode cX7_readLine 23 = .ok (.aload_n 0, 1) := by decide +kernel
theorem dX7_readLine_24 : decode cX7_readLine 24 = .ok (.invokevirtual 87, 3) := by decide +kernel
theorem dX7_readLine_27 : decode cX7_readLine 27 = .ok (.ireturn, 1) := by decide +kernel
theorem dX7_readLine_28 : decode cX7_readLine 28 = .ok (.aload_n 0, 1) := by decide +kernel
theorem dX7_readLine_29 : decode cX7_readLine 29 = .ok (.ldc 90, 2) := by decide +kernel
theorem dX7_readLine_31 : decode cX7_readLine 31 = .ok (.invokevirtual 78, 3) := by decide +kernel
theorem dX7_readLine_34 : decode cX7_readLine 34 = .ok (.ifCond .eq 8, 3) := by decide +kernel
theorem dX7_readLine_37 : decode cX7_readLine 37 = .ok (.aload_n 0, 1) := by decide +kernel
theorem dX7_readLine_38 : decode cX7_readLine 38 = .ok (.invokevirtual 92, 3) := by decide +kernel
theorem dX7_readLine_41 : decode cX7_readLine 41 = .ok (.ireturn, 1) := by decide +kernel
theorem dX7_readLine_42 : decode cX7_readLine 42 = .ok (.aload_n 0, 1) := by decide +kernel
theorem dX7_readLine_43 : decode cX7_readLine 43 = .ok (.ldc 95, 2) := by decide +kernel
theorem dX7_readLine_45 : decode cX7_readLine 45 = .ok (.invokevirtual 78, 3) := by decide +kernel
theorem dX7_readLine_48 : decode cX7_readLine 48 = .ok (.ifCond .eq 8, 3) := by decide +kernel
theorem dX7_readLine_51 : decode cX7_readLine 51 = .ok (.aload_n 0, 1) := by decide +kernel
theorem dX7_readLine_52 : decode cX7_readLine 52 = .ok (.invokevirtual 97, 3) := by decide +kernel
theorem dX7_readLine_55 : decode cX7_readLine 55 = .ok (.ireturn, 1) := by decide +kernel
theorem dX7_readLine_56 : decode cX7_readLine 56 = .ok (.aload_n 0, 1) := by decide +kernel
theorem dX7_readLine_57 : decode cX7_readLine 57 = .ok (.ldc 100, 2) := by decide +kernel
theorem dX7_readLine_59 : decode cX7_readLine 59 = .ok (.invokevirtual 78, 3) := by decide +kernel
theorem dX7_readLine_62 : decode cX7_readLine 62 = .ok (.ifCond .eq 8, 3) := by decide +kernel
theorem dX7_readLine_65 : decode cX7_readLine 65 = .ok (.aload_n 0, 1) := by decide +kernel
theorem dX7_readLine_66 : decode cX7_readLine 66 = .ok (.invokevirtual 102, 3) := by decide +kernel
theorem dX7_readLine_69 : decode cX7_readLine 69 = .ok (.ireturn, 1) := by decide +kernel
theorem dX7_readLine_70 : decode cX7_readLine 70 = .ok (.aload_n 0, 1) := by decide +kernel
theorem dX7_readLine_71 : decode cX7_readLine 71 = .ok (.ldc 105, 2) := by decide +kernel
theorem dX7_readLine_73 : decode cX7_readLine 73 = .ok (.invokevirtual 78, 3) := by decide +kernel
theorem dX7_readLine_76 : decode cX7_readLine 76 = .ok (.ifCond .eq 8, 3) := by decide +kernel
theorem dX7_readLine_79 : decode cX7_readLine 79 = .ok (.aload_n 0, 1) := by decide +kernel
theorem dX7_readLine_80 : decode cX7_readLine 80 = .ok (.invokevirtual 107, 3) := by decide +kernel
theorem dX7_readLine_83 : decode cX7_readLine 83 = .ok (.ireturn, 1) := by decide +kernel
theorem dX7_readLine_84 : decode cX7_readLine 84 = .ok (.aload_n 0, 1) := by decide +kernel
theorem dX7_readLine_85 : decode cX7_readLine 85 = .ok (.ldc 110, 2) := by decide +kernel
theorem dX7_readLine_87 : decode cX7_readLine 87 = .ok (.invokevirtual 78, 3) := by decide +kernel
theorem dX7_readLine_90 : decode cX7_readLine 90 = .ok (.ifCond .eq 8, 3) := by decide +kernel
theorem dX7_readLine_93 : decode cX7_readLine 93 = .ok (.aload_n 0, 1) := by decide +kernel
theorem dX7_readLine_94 : decode cX7_readLine 94 = .ok (.invokevirtual 112, 3) := by decide +kernel
theorem dX7_readLine_97 : decode cX7_readLine 97 = .ok (.ireturn, 1) := by decide +kernel
theorem dX7_readLine_98 : decode cX7_readLine 98 = .ok (.aload_n 0, 1) := by decide +kernel
theorem dX7_readLine_99 : decode cX7_readLine 99 = .ok (.ldc 115, 2) := by decide +kernel
theorem dX7_readLine_101 : decode cX7_readLine 101 = .ok (.invokevirtual 78, 3) := by decide +kernel
theorem dX7_readLine_104 : decode cX7_readLine 104 = .ok (.ifCond .eq 10, 3) := by decide +kernel
theorem dX7_readLine_107 : decode cX7_readLine 107 = .ok (.aload_n 0, 1) := by decide +kernel
theorem dX7_readLine_108 : decode cX7_readLine 108 = .ok (.invokevirtual 117, 3) := by decide +kernel
theorem dX7_readLine_111 : decode cX7_readLine 111 = .ok (.goto 8, 3) := by decide +kernel
theorem dX7_readLine_114 : decode cX7_readLine 114 = .ok (.aload_n 0, 1) := by decide +kernel
theorem dX7_readLine_115 : decode cX7_readLine 115 = .ok (.iconst 2, 1) := by decide +kernel
theorem dX7_readLine_116 : decode cX7_readLine 116 = .ok (.invokevirtual 120, 3) := by decide +kernel
theorem dX7_readLine_119 : decode cX7_readLine 119 = .ok (.ireturn, 1) := by decide +kernel
theorem dX7_readRooms_0 : decode cX7_readRooms 0 = .ok (.aload_n 0, 1) := by decide +kernel
theorem dX7_readRooms_1 : decode cX7_readRooms 1 = .ok (.getfield 33, 3) := by decide +kernel
theorem dX7_readRooms_4 : decode cX7_readRooms 4 = .ok (.getfield 124, 3) := by decide +kernel
theorem dX7_readRooms_7 : decode cX7_readRooms 7 = .ok (.ifCond .le 9, 3) := by decide +kernel
theorem dX7_readRooms_10 : decode cX7_readRooms 10 = .ok (.aload_n 0, 1) := by decide +kernel
theorem dX7_readRooms_11 : decode cX7_readRooms 11 = .ok (.iconst 4, 1) := by decide +kernel
theorem dX7_readRooms_12 : decode cX7_readRooms 12 = .ok (.invokevirtual 120, 3) := by decide +kernel
theorem dX7_readRooms_15 : decode cX7_readRooms 15 = .ok (.ireturn, 1) := by decide +kernel
theorem dX7_readRooms_16 : decode cX7_readRooms 16 = .ok (.aload_n 0, 1) := by decide +kernel
theorem dX7_readRooms_17 : decode cX7_readRooms 17 = .ok (.ldc 76, 2) := by decide +kernel
theorem dX7_readRooms_19 : decode cX7_readRooms 19 = .ok (.invokevirtual 126, 3) := by decide +kernel
theorem dX7_readRooms_22 : decode cX7_readRooms 22 = .ok (.ifCond .eq 13, 3) := by decide +kernel
theorem dX7_readRooms_25 : decode cX7_readRooms 25 = .ok (.aload_n 0, 1) := by decide +kernel
theorem dX7_readRooms_26 : decode cX7_readRooms 26 = .ok (.iconst 1, 1) := by decide +kernel
theorem dX7_readRooms_27 : decode cX7_readRooms 27 = .ok (.bipush 16, 2) := by decide +kernel
theorem dX7_readRooms_29 : decode cX7_readRooms 29 = .ok (.invokevirtual 129, 3) := by decide +kernel
theorem dX7_readRooms_32 : decode cX7_readRooms 32 = .ok (.ifCond .ne 5, 3) := by decide +kernel
theorem dX7_readRooms_35 : decode cX7_readRooms 35 = .ok (.iconst 0, 1) := by decide +kernel
theorem dX7_readRooms_36 : decode cX7_readRooms 36 = .ok (.ireturn, 1) := by decide +kernel
theorem dX7_readRooms_37 : decode cX7_readRooms 37 = .ok (.aload_n 0, 1) := by decide +kernel
theorem dX7_readRooms_38 : decode cX7_readRooms 38 = .ok (.getfield 33, 3) := by decide +kernel
theorem dX7_readRooms_41 : decode cX7_readRooms 41 = .ok (.aload_n 0, 1) := by decide +kernel
theorem dX7_readRooms_42 : decode cX7_readRooms 42 = .ok (.getfield 37, 3) := by decide +kernel
theorem dX7_readRooms_45 : decode cX7_readRooms 45 = .ok (.iconst 0, 1) := by decide +kernel
theorem dX7_readRooms_46 : decode cX7_readRooms 46 = .ok (.iaload, 1) := by decide +kernel
theorem dX7_readRooms_47 : decode cX7_readRooms 47 = .ok (.putfield 124, 3) := by decide +kernel
theorem dX7_readRooms_50 : decode cX7_readRooms 50 = .ok (.iconst 1, 1) := by decide +kernel
theorem dX7_readRooms_51 : decode cX7_readRooms 51 = .ok (.ireturn, 1) := by decide +kernel
theorem dX7_readPane_0 : decode cX7_readPane 0 = .ok (.aload_n 0, 1) := by decide +kernel
theorem dX7_readPane_1 : decode cX7_readPane 1 = .ok (.aload_n 0, 1) := by decide +kernel
theorem dX7_readPane_2 : decode cX7_readPane 2 = .ok (.getfield 33, 3) := by decide +kernel
theorem dX7_readPane_5 : decode cX7_readPane 5 = .ok (.getfield 133, 3) := by decide +kernel
theorem dX7_readPane_8 : decode cX7_readPane 8 = .ok (.bipush 60, 2) := by decide +kernel
theorem dX7_readPane_10 : decode cX7_readPane 10 = .ok (.if_icmp .ge 7, 3) := by decide +kernel
theorem dX7_readPane_13 : decode cX7_readPane 13 = .ok (.iconst 1, 1) := by decide +kernel
theorem dX7_readPane_14 : decode cX7_readPane 14 = .ok (.goto 4, 3) := by decide +kernel
theorem dX7_readPane_17 : decode cX7_readPane 17 = .ok (.iconst 0, 1) := by decide +kernel
theorem dX7_readPane_18 : decode cX7_readPane 18 = .ok (.invokevirtual 136, 3) := by decide +kernel
theorem dX7_readPane_21 : decode cX7_readPane 21 = .ok (.ifCond .eq 19, 3) := by decide +kernel
theorem dX7_readPane_24 : decode cX7_readPane 24 = .ok (.aload_n 0, 1) := by decide +kernel
theorem dX7_readPane_25 : decode cX7_readPane 25 = .ok (.ldc 85, 2) := by decide +kernel
theorem dX7_readPane_27 : decode cX7_readPane 27 = .ok (.invokevirtual 126, 3) := by decide +kernel
theorem dX7_readPane_30 : decode cX7_readPane 30 = .ok (.ifCond .eq 10, 3) := by decide +kernel
theorem dX7_readPane_33 : decode cX7_readPane 33 = .ok (.aload_n 0, 1) := by decide +kernel
theorem dX7_readPane_34 : decode cX7_readPane 34 = .ok (.invokevirtual 140, 3) := by decide +kernel
theorem dX7_readPane_37 : decode cX7_readPane 37 = .ok (.ifCond .ne 5, 3) := by decide +kernel
theorem dX7_readPane_40 : decode cX7_readPane 40 = .ok (.iconst 0, 1) := by decide +kernel
theorem dX7_readPane_41 : decode cX7_readPane 41 = .ok (.ireturn, 1) := by decide +kernel
theorem dX7_readPane_42 : decode cX7_readPane 42 = .ok (.aload_n 0, 1) := by decide +kernel
theorem dX7_readPane_43 : decode cX7_readPane 43 = .ok (.aload_n 0, 1) := by decide +kernel
theorem dX7_readPane_44 : decode cX7_readPane 44 = .ok (.ldc 143, 2) := by decide +kernel
theorem dX7_readPane_46 : decode cX7_readPane 46 = .ok (.invokevirtual 145, 3) := by decide +kernel
theorem dX7_readPane_49 : decode cX7_readPane 49 = .ok (.ifCond .eq 7, 3) := by decide +kernel
theorem dX7_readPane_52 : decode cX7_readPane 52 = .ok (.iconst 1, 1) := by decide +kernel
theorem dX7_readPane_53 : decode cX7_readPane 53 = .ok (.goto 4, 3) := by decide +kernel
theorem dX7_readPane_56 : decode cX7_readPane 56 = .ok (.iconst 0, 1) := by decide +kernel
theorem dX7_readPane_57 : decode cX7_readPane 57 = .ok (.invokevirtual 148, 3) := by decide +kernel
theorem dX7_readPane_60 : decode cX7_readPane 60 = .ok (.aload_n 0, 1) := by decide +kernel
theorem dX7_readPane_61 : decode cX7_readPane 61 = .ok (.aload_n 0, 1) := by decide +kernel
theorem dX7_readPane_62 : decode cX7_readPane 62 = .ok (.getfield 33, 3) := by decide +kernel
theorem dX7_readPane_65 : decode cX7_readPane 65 = .ok (.getfield 152, 3) := by decide +kernel
theorem dX7_readPane_68 : decode cX7_readPane 68 = .ok (.aload_n 0, 1) := by decide +kernel
theorem dX7_readPane_69 : decode cX7_readPane 69 = .ok (.getfield 33, 3) := by decide +kernel
theorem dX7_readPane_72 : decode cX7_readPane 72 = .ok (.getfield 133, 3) := by decide +kernel
theorem dX7_readPane_75 : decode cX7_readPane 75 = .ok (.iconst 4, 1) := by decide +kernel
theorem dX7_readPane_76 : decode cX7_readPane 76 = .ok (.imul, 1) := by decide +kernel
theorem dX7_readPane_77 : decode cX7_readPane 77 = .ok (.iconst 4, 1) := by decide +kernel
theorem dX7_readPane_78 : decode cX7_readPane 78 = .ok (.invokevirtual 155, 3) := by decide +kernel
theorem dX7_readPane_81 : decode cX7_readPane 81 = .ok (.aload_n 0, 1) := by decide +kernel
theorem dX7_readPane_82 : decode cX7_readPane 82 = .ok (.getfield 33, 3) := by decide +kernel
theorem dX7_readPane_85 : decode cX7_readPane 85 = .ok (.dup, 1) := by decide +kernel
theorem dX7_readPane_86 : decode cX7_readPane 86 = .ok (.getfield 133, 3) := by decide +kernel
theorem dX7_readPane_89 : decode cX7_readPane 89 = .ok (.iconst 1, 1) := by decide +kernel
theorem dX7_readPane_90 : decode cX7_readPane 90 = .ok (.iadd, 1) := by decide +kernel
theorem dX7_readPane_91 : decode cX7_readPane 91 = .ok (.putfield 133, 3) := by decide +kernel
theorem dX7_readPane_94 : decode cX7_readPane 94 = .ok (.iconst 1, 1) := by decide +kernel
theorem dX7_readPane_95 : decode cX7_readPane 95 = .ok (.ireturn, 1) := by decide +kernel
theorem dX7_readLamp_0 : decode cX7_readLamp 0 = .ok (.aload_n 0, 1) := by decide +kernel
theorem dX7_readLamp_1 : decode cX7_readLamp 1 = .ok (.getfield 33, 3) := by decide +kernel
theorem dX7_readLamp_4 : decode cX7_readLamp 4 = .ok (.getfield 159, 3) := by decide +kernel
theorem dX7_readLamp_7 : decode cX7_readLamp 7 = .ok (.iconst 4, 1) := by decide +kernel
theorem dX7_readLamp_8 : decode cX7_readLamp 8 = .ok (.if_icmp .lt 9, 3) := by decide +kernel
theorem dX7_readLamp_11 : decode cX7_readLamp 11 = .ok (.aload_n 0, 1) := by decide +kernel
theorem dX7_readLamp_12 : decode cX7_readLamp 12 = .ok (.iconst 4, 1) := by decide +kernel
theorem dX7_readLamp_13 : decode cX7_readLamp 13 = .ok (.invokevirtual 120, 3) := by decide +kernel
theorem dX7_readLamp_16 : decode cX7_readLamp 16 = .ok (.ireturn, 1) := by decide +kernel
theorem dX7_readLamp_17 : decode cX7_readLamp 17 = .ok (.aload_n 0, 1) := by decide +kernel
theorem dX7_readLamp_18 : decode cX7_readLamp 18 = .ok (.ldc 90, 2) := by decide +kernel
theorem dX7_readLamp_20 : decode cX7_readLamp 20 = .ok (.invokevirtual 126, 3) := by decide +kernel
theorem dX7_readLamp_23 : decode cX7_readLamp 23 = .ok (.ifCond .eq 42, 3) := by decide +kernel
theorem dX7_readLamp_26 : decode cX7_readLamp 26 = .ok (.aload_n 0, 1) := by decide +kernel
theorem dX7_readLamp_27 : decode cX7_readLamp 27 = .ok (.ldc 162, 2) := by decide +kernel
theorem dX7_readLamp_29 : decode cX7_readLamp 29 = .ok (.invokevirtual 126, 3) := by decide +kernel
theorem dX7_readLamp_32 : decode cX7_readLamp 32 = .ok (.ifCond .eq 33, 3) := by decide +kernel
theorem dX7_readLamp_35 : decode cX7_readLamp 35 = .ok (.aload_n 0, 1) := by decide +kernel
theorem dX7_readLamp_36 : decode cX7_readLamp 36 = .ok (.iconst 1, 1) := by decide +kernel
theorem dX7_readLamp_37 : decode cX7_readLamp 37 = .ok (.sipush 999, 3) := by decide +kernel
theorem dX7_readLamp_40 : decode cX7_readLamp 40 = .ok (.invokevirtual 129, 3) := by decide +kernel
theorem dX7_readLamp_43 : decode cX7_readLamp 43 = .ok (.ifCond .eq 22, 3) := by decide +kernel
theorem dX7_readLamp_46 : decode cX7_readLamp 46 = .ok (.aload_n 0, 1) := by decide +kernel
theorem dX7_readLamp_47 : decode cX7_readLamp 47 = .ok (.ldc 164, 2) := by decide +kernel
theorem dX7_readLamp_49 : decode cX7_readLamp 49 = .ok (.invokevirtual 126, 3) := by decide +kernel
theorem dX7_readLamp_52 : decode cX7_readLamp 52 = .ok (.ifCond .eq 13, 3) := by decide +kernel
theorem dX7_readLamp_55 : decode cX7_readLamp 55 = .ok (.aload_n 0, 1) := by decide +kernel
theorem dX7_readLamp_56 : decode cX7_readLamp 56 = .ok (.iconst 0, 1) := by decide +kernel
theorem dX7_readLamp_57 : decode cX7_readLamp 57 = .ok (.bipush 99, 2) := by decide +kernel
theorem dX7_readLamp_59 : decode cX7_readLamp 59 = .ok (.invokevirtual 129, 3) := by decide +kernel
theorem dX7_readLamp_62 : decode cX7_readLamp 62 = .ok (.ifCond .ne 5, 3) := by decide +kernel
theorem dX7_readLamp_65 : decode cX7_readLamp 65 = .ok (.iconst 0, 1) := by decide +kernel
theorem dX7_readLamp_66 : decode cX7_readLamp 66 = .ok (.ireturn, 1) := by decide +kernel
theorem dX7_readLamp_67 : decode cX7_readLamp 67 = .ok (.aload_n 0, 1) := by decide +kernel
theorem dX7_readLamp_68 : decode cX7_readLamp 68 = .ok (.aload_n 0, 1) := by decide +kernel
theorem dX7_readLamp_69 : decode cX7_readLamp 69 = .ok (.getfield 33, 3) := by decide +kernel
theorem dX7_readLamp_72 : decode cX7_readLamp 72 = .ok (.getfield 166, 3) := by decide +kernel
theorem dX7_readLamp_75 : decode cX7_readLamp 75 = .ok (.aload_n 0, 1) := by decide +kernel
theorem dX7_readLamp_76 : decode cX7_readLamp 76 = .ok (.getfield 33, 3) := by decide +kernel
theorem dX7_readLamp_79 : decode cX7_readLamp 79 = .ok (.getfield 159, 3) := by decide +kernel
theorem dX7_readLamp_82 : decode cX7_readLamp 82 = .ok (.iconst 2, 1) := by decide +kernel
theorem dX7_readLamp_83 : decode cX7_readLamp 83 = .ok (.imul, 1) := by decide +kernel
theorem dX7_readLamp_84 : decode cX7_readLamp 84 = .ok (.iconst 2, 1) := by decide +kernel
theorem dX7_readLamp_85 : decode cX7_readLamp 85 = .ok (.invokevirtual 155, 3) := by decide +kernel
theorem dX7_readLamp_88 : decode cX7_readLamp 88 = .ok (.aload_n 0, 1) := by decide +kernel
theorem dX7_readLamp_89 : decode cX7_readLamp 89 = .ok (.getfield 33, 3) := by decide +kernel
theorem dX7_readLamp_92 : decode cX7_readLamp 92 = .ok (.dup, 1) := by decide +kernel
theorem dX7_readLamp_93 : decode cX7_readLamp 93 = .ok (.getfield 159, 3) := by decide +kernel
theorem dX7_readLamp_96 : decode cX7_readLamp 96 = .ok (.iconst 1, 1) := by decide +kernel
theorem dX7_readLamp_97 : decode cX7_readLamp 97 = .ok (.iadd, 1) := by decide +kernel
theorem dX7_readLamp_98 : decode cX7_readLamp 98 = .ok (.putfield 159, 3) := by decide +kernel
theorem dX7_readLamp_101 : decode cX7_readLamp 101 = .ok (.iconst 1, 1) := by decide +kernel
theorem dX7_readLamp_102 : decode cX7_readLamp 102 = .ok (.ireturn, 1) := by decide +kernel
theorem dX7_readWant_0 : decode cX7_readWant 0 = .ok (.aload_n 0, 1) := by decide +kernel
theorem dX7_readWant_1 : decode cX7_readWant 1 = .ok (.aload_n 0, 1) := by decide +kernel
theorem dX7_readWant_2 : decode cX7_readWant 2 = .ok (.getfield 33, 3) := by decide +kernel
theorem dX7_readWant_5 : decode cX7_readWant 5 = .ok (.getfield 169, 3) := by decide +kernel
theorem dX7_readWant_8 : decode cX7_readWant 8 = .ok (.bipush 24, 2) := by decide +kernel
theorem dX7_readWant_10 : decode cX7_readWant 10 = .ok (.if_icmp .ge 7, 3) := by decide +kernel
theorem dX7_readWant_13 : decode cX7_readWant 13 = .ok (.iconst 1, 1) := by decide +kernel
theorem dX7_readWant_14 : decode cX7_readWant 14 = .ok (.goto 4, 3) := by decide +kernel
theorem dX7_readWant_17 : decode cX7_readWant 17 = .ok (.iconst 0, 1) := by decide +kernel
theorem dX7_readWant_18 : decode cX7_readWant 18 = .ok (.invokevirtual 136, 3) := by decide +kernel
theorem dX7_readWant_21 : decode cX7_readWant 21 = .ok (.ifCond .eq 49, 3) := by decide +kernel
theorem dX7_readWant_24 : decode cX7_readWant 24 = .ok (.aload_n 0, 1) := by decide +kernel
theorem dX7_readWant_25 : decode cX7_readWant 25 = .ok (.ldc 95, 2) := by decide +kernel
theorem dX7_readWant_27 : decode cX7_readWant 27 = .ok (.invokevirtual 126, 3) := by decide +kernel
theorem dX7_readWant_30 : decode cX7_readWant 30 = .ok (.ifCond .eq 40, 3) := by decide +kernel
theorem dX7_readWant_33 : decode cX7_readWant 33 = .ok (.aload_n 0, 1) := by decide +kernel
theorem dX7_readWant_34 : decode cX7_readWant 34 = .ok (.iconst 0, 1) := by decide +kernel
theorem dX7_readWant_35 : decode cX7_readWant 35 = .ok (.aload_n 0, 1) := by decide +kernel
theorem dX7_readWant_36 : decode cX7_readWant 36 = .ok (.getfield 33, 3) := by decide +kernel
theorem dX7_readWant_39 : decode cX7_readWant 39 = .ok (.getfield 124, 3) := by decide +kernel
theorem dX7_readWant_42 : decode cX7_readWant 42 = .ok (.iconst 1, 1) := by decide +kernel
theorem dX7_readWant_43 : decode cX7_readWant 43 = .ok (.isub, 1) := by decide +kernel
theorem dX7_readWant_44 : decode cX7_readWant 44 = .ok (.invokevirtual 129, 3) := by decide +kernel
theorem dX7_readWant_47 : decode cX7_readWant 47 = .ok (.ifCond .eq 23, 3) := by decide +kernel
theorem dX7_readWant_50 : decode cX7_readWant 50 = .ok (.aload_n 0, 1) := by decide +kernel
theorem dX7_readWant_51 : decode cX7_readWant 51 = .ok (.ldc 172, 2) := by decide +kernel
theorem dX7_readWant_53 : decode cX7_readWant 53 = .ok (.invokevirtual 126, 3) := by decide +kernel
theorem dX7_readWant_56 : decode cX7_readWant 56 = .ok (.ifCond .eq 14, 3) := by decide +kernel
theorem dX7_readWant_59 : decode cX7_readWant 59 = .ok (.aload_n 0, 1) := by decide +kernel
theorem dX7_readWant_60 : decode cX7_readWant 60 = .ok (.iconst 0, 1) := by decide +kernel
theorem dX7_readWant_61 : decode cX7_readWant 61 = .ok (.sipush 9999, 3) := by decide +kernel
theorem dX7_readWant_64 : decode cX7_readWant 64 = .ok (.invokevirtual 129, 3) := by decide +kernel
theorem dX7_readWant_67 : decode cX7_readWant 67 = .ok (.ifCond .ne 5, 3) := by decide +kernel
theorem dX7_readWant_70 : decode cX7_readWant 70 = .ok (.iconst 0, 1) := by decide +kernel
theorem dX7_readWant_71 : decode cX7_readWant 71 = .ok (.ireturn, 1) := by decide +kernel
theorem dX7_readWant_72 : decode cX7_readWant 72 = .ok (.aload_n 0, 1) := by decide +kernel
theorem dX7_readWant_73 : decode cX7_readWant 73 = .ok (.ldc 174, 2) := by decide +kernel
theorem dX7_readWant_75 : decode cX7_readWant 75 = .ok (.invokevirtual 145, 3) := by decide +kernel
theorem dX7_readWant_78 : decode cX7_readWant 78 = .ok (.ifCond .ne 12, 3) := by decide +kernel
theorem dX7_readWant_81 : decode cX7_readWant 81 = .ok (.aload_n 0, 1) := by decide +kernel
theorem dX7_readWant_82 : decode cX7_readWant 82 = .ok (.ldc 176, 2) := by decide +kernel
theorem dX7_readWant_84 : decode cX7_readWant 84 = .ok (.invokevirtual 148, 3) := by decide +kernel
theorem dX7_readWant_87 : decode cX7_readWant 87 = .ok (.goto 21, 3) := by decide +kernel
theorem dX7_readWant_90 : decode cX7_readWant 90 = .ok (.aload_n 0, 1) := by decide +kernel
theorem dX7_readWant_91 : decode cX7_readWant 91 = .ok (.aload_n 0, 1) := by decide +kernel
theorem dX7_readWant_92 : decode cX7_readWant 92 = .ok (.getfield 37, 3) := by decide +kernel
theorem dX7_readWant_95 : decode cX7_readWant 95 = .ok (.iconst 1, 1) := by decide +kernel
theorem dX7_readWant_96 : decode cX7_readWant 96 = .ok (.iaload, 1) := by decide +kernel
theorem dX7_readWant_97 : decode cX7_readWant 97 = .ok (.sipush 9999, 3) := by decide +kernel
theorem dX7_readWant_100 : decode cX7_readWant 100 = .ok (.invokevirtual 129, 3) := by decide +kernel
theorem dX7_readWant_103 : decode cX7_readWant 103 = .ok (.ifCond .ne 5, 3) := by decide +kernel
theorem dX7_readWant_106 : decode cX7_readWant 106 = .ok (.iconst 0, 1) := by decide +kernel
theorem dX7_readWant_107 : decode cX7_readWant 107 = .ok (.ireturn, 1) := by decide +kernel
theorem dX7_readWant_108 : decode cX7_readWant 108 = .ok (.aload_n 0, 1) := by decide +kernel
theorem dX7_readWant_109 : decode cX7_readWant 109 = .ok (.ldc 177, 2) := by decide +kernel
theorem dX7_readWant_111 : decode cX7_readWant 111 = .ok (.invokevirtual 145, 3) := by decide +kernel
theorem dX7_readWant_114 : decode cX7_readWant 114 = .ok (.ifCond .ne 17, 3) := by decide +kernel
theorem dX7_readWant_117 : decode cX7_readWant 117 = .ok (.aload_n 0, 1) := by decide +kernel
theorem dX7_readWant_118 : decode cX7_readWant 118 = .ok (.iconst 0, 1) := by decide +kernel
theorem dX7_readWant_119 : decode cX7_readWant 119 = .ok (.invokevirtual 148, 3) := by decide +kernel
theorem dX7_readWant_122 : decode cX7_readWant 122 = .ok (.aload_n 0, 1) := by decide +kernel
theorem dX7_readWant_123 : decode cX7_readWant 123 = .ok (.bipush 23, 2) := by decide +kernel
theorem dX7_readWant_125 : decode cX7_readWant 125 = .ok (.invokevirtual 148, 3) := by decide +kernel
theorem dX7_readWant_128 : decode cX7_readWant 128 = .ok (.goto 39, 3) := by decide +kernel
theorem dX7_readWant_131 : decode cX7_readWant 131 = .ok (.aload_n 0, 1) := by decide +kernel
theorem dX7_readWant_132 : decode cX7_readWant 132 = .ok (.iconst 0, 1) := by decide +kernel
theorem dX7_readWant_133 : decode cX7_readWant 133 = .ok (.bipush 23, 2) := by decide +kernel
theorem dX7_readWant_135 : decode cX7_readWant 135 = .ok (.invokevirtual 129, 3) := by decide +kernel
theorem dX7_readWant_138 : decode cX7_readWant 138 = .ok (.ifCond .eq 27, 3) := by decide +kernel
theorem dX7_readWant_141 : decode cX7_readWant 141 = .ok (.aload_n 0, 1) := by decide +kernel
theorem dX7_readWant_142 : decode cX7_readWant 142 = .ok (.ldc 179, 2) := by decide +kernel
theorem dX7_readWant_144 : decode cX7_readWant 144 = .ok (.invokevirtual 126, 3) := by decide +kernel
theorem dX7_readWant_147 : decode cX7_readWant 147 = .ok (.ifCond .eq 18, 3) := by decide +kernel
theorem dX7_readWant_150 : decode cX7_readWant 150 = .ok (.aload_n 0, 1) := by decide +kernel
theorem dX7_readWant_151 : decode cX7_readWant 151 = .ok (.aload_n 0, 1) := by decide +kernel
theorem dX7_readWant_152 : decode cX7_readWant 152 = .ok (.getfield 37, 3) := by decide +kernel
theorem dX7_readWant_155 : decode cX7_readWant 155 = .ok (.iconst 3, 1) := by decide +kernel
theorem dX7_readWant_156 : decode cX7_readWant 156 = .ok (.iaload, 1) := by decide +kernel
theorem dX7_readWant_157 : decode cX7_readWant 157 = .ok (.bipush 23, 2) := by decide +kernel
theorem dX7_readWant_159 : decode cX7_readWant 159 = .ok (.invokevirtual 129, 3) := by decide +kernel
theorem dX7_readWant_162 : decode cX7_readWant 162 = .ok (.ifCond .ne 5, 3) := by decide +kernel
theorem dX7_readWant_165 : decode cX7_readWant 165 = .ok (.iconst 0, 1) := by decide +kernel
theorem dX7_readWant_166 : decode cX7_readWant 166 = .ok (.ireturn, 1) := by decide +kernel
theorem dX7_readWant_167 : decode cX7_readWant 167 = .ok (.aload_n 0, 1) := by decide +kernel
