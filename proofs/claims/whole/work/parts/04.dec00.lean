theorem dX0_init_0 : decode cX0_init 0 = .ok (.aload_n 0, 1) := by decide +kernel
theorem dX0_init_1 : decode cX0_init 1 = .ok (.invokespecial 3, 3) := by decide +kernel
theorem dX0_init_4 : decode cX0_init 4 = .ok (.aload_n 0, 1) := by decide +kernel
theorem dX0_init_5 : decode cX0_init 5 = .ok (.bipush 16, 2) := by decide +kernel
theorem dX0_init_7 : decode cX0_init 7 = .ok (.newarray .int, 2) := by decide +kernel
theorem dX0_init_9 : decode cX0_init 9 = .ok (.putfield 9, 3) := by decide +kernel
theorem dX0_init_12 : decode cX0_init 12 = .ok (.aload_n 0, 1) := by decide +kernel
theorem dX0_init_13 : decode cX0_init 13 = .ok (.bipush 16, 2) := by decide +kernel
theorem dX0_init_15 : decode cX0_init 15 = .ok (.newarray .int, 2) := by decide +kernel
theorem dX0_init_17 : decode cX0_init 17 = .ok (.putfield 15, 3) := by decide +kernel
theorem dX0_init_20 : decode cX0_init 20 = .ok (.aload_n 0, 1) := by decide +kernel
theorem dX0_init_21 : decode cX0_init 21 = .ok (.bipush 16, 2) := by decide +kernel
theorem dX0_init_23 : decode cX0_init 23 = .ok (.newarray .int, 2) := by decide +kernel
theorem dX0_init_25 : decode cX0_init 25 = .ok (.putfield 18, 3) := by decide +kernel
theorem dX0_init_28 : decode cX0_init 28 = .ok (.aload_n 0, 1) := by decide +kernel
theorem dX0_init_29 : decode cX0_init 29 = .ok (.bipush 16, 2) := by decide +kernel
theorem dX0_init_31 : decode cX0_init 31 = .ok (.newarray .int, 2) := by decide +kernel
theorem dX0_init_33 : decode cX0_init 33 = .ok (.putfield 21, 3) := by decide +kernel
theorem dX0_init_36 : decode cX0_init 36 = .ok (.aload_n 0, 1) := by decide +kernel
theorem dX0_init_37 : decode cX0_init 37 = .ok (.iconst 0, 1) := by decide +kernel
theorem dX0_init_38 : decode cX0_init 38 = .ok (.putfield 24, 3) := by decide +kernel
theorem dX0_init_41 : decode cX0_init 41 = .ok (.return_, 1) := by decide +kernel
theorem dX0_begin_0 : decode cX0_begin 0 = .ok (.aload_n 0, 1) := by decide +kernel
theorem dX0_begin_1 : decode cX0_begin 1 = .ok (.getfield 9, 3) := by decide +kernel
theorem dX0_begin_4 : decode cX0_begin 4 = .ok (.iconst 0, 1) := by decide +kernel
theorem dX0_begin_5 : decode cX0_begin 5 = .ok (.invokestatic 28, 3) := by decide +kernel
theorem dX0_begin_8 : decode cX0_begin 8 = .ok (.aload_n 0, 1) := by decide +kernel
theorem dX0_begin_9 : decode cX0_begin 9 = .ok (.getfield 15, 3) := by decide +kernel
theorem dX0_begin_12 : decode cX0_begin 12 = .ok (.ldc 34, 2) := by decide +kernel
theorem dX0_begin_14 : decode cX0_begin 14 = .ok (.invokestatic 28, 3) := by decide +kernel
theorem dX0_begin_17 : decode cX0_begin 17 = .ok (.aload_n 0, 1) := by decide +kernel
theorem dX0_begin_18 : decode cX0_begin 18 = .ok (.getfield 18, 3) := by decide +kernel
theorem dX0_begin_21 : decode cX0_begin 21 = .ok (.iconst 0, 1) := by decide +kernel
theorem dX0_begin_22 : decode cX0_begin 22 = .ok (.invokestatic 28, 3) := by decide +kernel
theorem dX0_begin_25 : decode cX0_begin 25 = .ok (.iconst 1, 1) := by decide +kernel
theorem dX0_begin_26 : decode cX0_begin 26 = .ok (.istore_n 3, 1) := by decide +kernel
theorem dX0_begin_27 : decode cX0_begin 27 = .ok (.iconst 0, 1) := by decide +kernel
theorem dX0_begin_28 : decode cX0_begin 28 = .ok (.istore 4, 2) := by decide +kernel
theorem dX0_begin_30 : decode cX0_begin 30 = .ok (.iload 4, 2) := by decide +kernel
theorem dX0_begin_32 : decode cX0_begin 32 = .ok (.aload_n 1, 1) := by decide +kernel
theorem dX0_begin_33 : decode cX0_begin 33 = .ok (.getfield 35, 3) := by decide +kernel
theorem dX0_begin_36 : decode cX0_begin 36 = .ok (.if_icmp .ge 113, 3) := by decide +kernel
theorem dX0_begin_39 : decode cX0_begin 39 = .ok (.aload_n 1, 1) := by decide +kernel
theorem dX0_begin_40 : decode cX0_begin 40 = .ok (.iload 4, 2) := by decide +kernel
theorem dX0_begin_42 : decode cX0_begin 42 = .ok (.iload_n 2, 1) := by decide +kernel
theorem dX0_begin_43 : decode cX0_begin 43 = .ok (.invokevirtual 40, 3) := by decide +kernel
theorem dX0_begin_46 : decode cX0_begin 46 = .ok (.ifCond .eq 97, 3) := by decide +kernel
theorem dX0_begin_49 : decode cX0_begin 49 = .ok (.aload_n 1, 1) := by decide +kernel
theorem dX0_begin_50 : decode cX0_begin 50 = .ok (.getfield 44, 3) := by decide +kernel
theorem dX0_begin_53 : decode cX0_begin 53 = .ok (.iload 4, 2) := by decide +kernel
theorem dX0_begin_55 : decode cX0_begin 55 = .ok (.iconst 5, 1) := by decide +kernel
theorem dX0_begin_56 : decode cX0_begin 56 = .ok (.imul, 1) := by decide +kernel
theorem dX0_begin_57 : decode cX0_begin 57 = .ok (.iaload, 1) := by decide +kernel
theorem dX0_begin_58 : decode cX0_begin 58 = .ok (.istore 5, 2) := by decide +kernel
theorem dX0_begin_60 : decode cX0_begin 60 = .ok (.aload_n 0, 1) := by decide +kernel
theorem dX0_begin_61 : decode cX0_begin 61 = .ok (.getfield 9, 3) := by decide +kernel
theorem dX0_begin_64 : decode cX0_begin 64 = .ok (.iload 5, 2) := by decide +kernel
theorem dX0_begin_66 : decode cX0_begin 66 = .ok (.aload_n 0, 1) := by decide +kernel
theorem dX0_begin_67 : decode cX0_begin 67 = .ok (.getfield 9, 3) := by decide +kernel
theorem dX0_begin_70 : decode cX0_begin 70 = .ok (.iload 5, 2) := by decide +kernel
theorem dX0_begin_72 : decode cX0_begin 72 = .ok (.iaload, 1) := by decide +kernel
theorem dX0_begin_73 : decode cX0_begin 73 = .ok (.aload_n 1, 1) := by decide +kernel
theorem dX0_begin_74 : decode cX0_begin 74 = .ok (.getfield 44, 3) := by decide +kernel
theorem dX0_begin_77 : decode cX0_begin 77 = .ok (.iload 4, 2) := by decide +kernel
theorem dX0_begin_79 : decode cX0_begin 79 = .ok (.iconst 5, 1) := by decide +kernel
theorem dX0_begin_80 : decode cX0_begin 80 = .ok (.imul, 1) := by decide +kernel
theorem dX0_begin_81 : decode cX0_begin 81 = .ok (.iconst 1, 1) := by decide +kernel
theorem dX0_begin_82 : decode cX0_begin 82 = .ok (.iadd, 1) := by decide +kernel
theorem dX0_begin_83 : decode cX0_begin 83 = .ok (.iaload, 1) := by decide +kernel
theorem dX0_begin_84 : decode cX0_begin 84 = .ok (.invokestatic 47, 3) := by decide +kernel
theorem dX0_begin_87 : decode cX0_begin 87 = .ok (.iastore, 1) := by decide +kernel
theorem dX0_begin_88 : decode cX0_begin 88 = .ok (.aload_n 0, 1) := by decide +kernel
theorem dX0_begin_89 : decode cX0_begin 89 = .ok (.getfield 15, 3) := by decide +kernel
theorem dX0_begin_92 : decode cX0_begin 92 = .ok (.iload 5, 2) := by decide +kernel
theorem dX0_begin_94 : decode cX0_begin 94 = .ok (.aload_n 0, 1) := by decide +kernel
theorem dX0_begin_95 : decode cX0_begin 95 = .ok (.getfield 15, 3) := by decide +kernel
theorem dX0_begin_98 : decode cX0_begin 98 = .ok (.iload 5, 2) := by decide +kernel
theorem dX0_begin_100 : decode cX0_begin 100 = .ok (.iaload, 1) := by decide +kernel
theorem dX0_begin_101 : decode cX0_begin 101 = .ok (.aload_n 1, 1) := by decide +kernel
theorem dX0_begin_102 : decode cX0_begin 102 = .ok (.getfield 44, 3) := by decide +kernel
theorem dX0_begin_105 : decode cX0_begin 105 = .ok (.iload 4, 2) := by decide +kernel
theorem dX0_begin_107 : decode cX0_begin 107 = .ok (.iconst 5, 1) := by decide +kernel
theorem dX0_begin_108 : decode cX0_begin 108 = .ok (.imul, 1) := by decide +kernel
theorem dX0_begin_109 : decode cX0_begin 109 = .ok (.iconst 2, 1) := by decide +kernel
theorem dX0_begin_110 : decode cX0_begin 110 = .ok (.iadd, 1) := by decide +kernel
theorem dX0_begin_111 : decode cX0_begin 111 = .ok (.iaload, 1) := by decide +kernel
theorem dX0_begin_112 : decode cX0_begin 112 = .ok (.invokestatic 53, 3) := by decide +kernel
theorem dX0_begin_115 : decode cX0_begin 115 = .ok (.iastore, 1) := by decide +kernel
theorem dX0_begin_116 : decode cX0_begin 116 = .ok (.iload_n 3, 1) := by decide +kernel
theorem dX0_begin_117 : decode cX0_begin 117 = .ok (.ifCond .eq 24, 3) := by decide +kernel
theorem dX0_begin_120 : decode cX0_begin 120 = .ok (.aload_n 0, 1) := by decide +kernel
theorem dX0_begin_121 : decode cX0_begin 121 = .ok (.getfield 9, 3) := by decide +kernel
theorem dX0_begin_124 : decode cX0_begin 124 = .ok (.iload 5, 2) := by decide +kernel
theorem dX0_begin_126 : decode cX0_begin 126 = .ok (.iaload, 1) := by decide +kernel
theorem dX0_begin_127 : decode cX0_begin 127 = .ok (.aload_n 0, 1) := by decide +kernel
theorem dX0_begin_128 : decode cX0_begin 128 = .ok (.getfield 15, 3) := by decide +kernel
theorem dX0_begin_131 : decode cX0_begin 131 = .ok (.iload 5, 2) := by decide +kernel
theorem dX0_begin_133 : decode cX0_begin 133 = .ok (.iaload, 1) := by decide +kernel
theorem dX0_begin_134 : decode cX0_begin 134 = .ok (.if_icmp .gt 7, 3) := by decide +kernel
theorem dX0_begin_137 : decode cX0_begin 137 = .ok (.iconst 1, 1) := by decide +kernel
theorem dX0_begin_138 : decode cX0_begin 138 = .ok (.goto 4, 3) := by decide +kernel
theorem dX0_begin_141 : decode cX0_begin 141 = .ok (.iconst 0, 1) := by decide +kernel
theorem dX0_begin_142 : decode cX0_begin 142 = .ok (.istore_n 3, 1) := by decide +kernel
theorem dX0_begin_143 : decode cX0_begin 143 = .ok (.iinc 4 1, 3) := by decide +kernel
theorem dX0_begin_146 : decode cX0_begin 146 = .ok (.goto (-116), 3) := by decide +kernel
theorem dX0_begin_149 : decode cX0_begin 149 = .ok (.aload_n 0, 1) := by decide +kernel
theorem dX0_begin_150 : decode cX0_begin 150 = .ok (.invokevirtual 56, 3) := by decide +kernel
theorem dX0_begin_153 : decode cX0_begin 153 = .ok (.iload_n 3, 1) := by decide +kernel
theorem dX0_begin_154 : decode cX0_begin 154 = .ok (.ireturn, 1) := by decide +kernel
theorem dX0_watch_0 : decode cX0_watch 0 = .ok (.aload_n 0, 1) := by decide +kernel
theorem dX0_watch_1 : decode cX0_watch 1 = .ok (.iconst 0, 1) := by decide +kernel
theorem dX0_watch_2 : decode cX0_watch 2 = .ok (.putfield 24, 3) := by decide +kernel
theorem dX0_watch_5 : decode cX0_watch 5 = .ok (.iconst 0, 1) := by decide +kernel
theorem dX0_watch_6 : decode cX0_watch 6 = .ok (.istore_n 1, 1) := by decide +kernel
theorem dX0_watch_7 : decode cX0_watch 7 = .ok (.iload_n 1, 1) := by decide +kernel
theorem dX0_watch_8 : decode cX0_watch 8 = .ok (.bipush 16, 2) := by decide +kernel
theorem dX0_watch_10 : decode cX0_watch 10 = .ok (.if_icmp .ge 49, 3) := by decide +kernel
theorem dX0_watch_13 : decode cX0_watch 13 = .ok (.aload_n 0, 1) := by decide +kernel
theorem dX0_watch_14 : decode cX0_watch 14 = .ok (.getfield 9, 3) := by decide +kernel
theorem dX0_watch_17 : decode cX0_watch 17 = .ok (.iload_n 1, 1) := by decide +kernel
theorem dX0_watch_18 : decode cX0_watch 18 = .ok (.iaload, 1) := by decide +kernel
theorem dX0_watch_19 : decode cX0_watch 19 = .ok (.ifCond .gt 14, 3) := by decide +kernel
theorem dX0_watch_22 : decode cX0_watch 22 = .ok (.aload_n 0, 1) := by decide +kernel
theorem dX0_watch_23 : decode cX0_watch 23 = .ok (.getfield 15, 3) := by decide +kernel
theorem dX0_watch_26 : decode cX0_watch 26 = .ok (.iload_n 1, 1) := by decide +kernel
theorem dX0_watch_27 : decode cX0_watch 27 = .ok (.iaload, 1) := by decide +kernel
theorem dX0_watch_28 : decode cX0_watch 28 = .ok (.ldc 34, 2) := by decide +kernel
theorem dX0_watch_30 : decode cX0_watch 30 = .ok (.if_icmp .ge 23, 3) := by decide +kernel
theorem dX0_watch_33 : decode cX0_watch 33 = .ok (.aload_n 0, 1) := by decide +kernel
theorem dX0_watch_34 : decode cX0_watch 34 = .ok (.getfield 21, 3) := by decide +kernel
theorem dX0_watch_37 : decode cX0_watch 37 = .ok (.aload_n 0, 1) := by decide +kernel
theorem dX0_watch_38 : decode cX0_watch 38 = .ok (.getfield 24, 3) := by decide +kernel
theorem dX0_watch_41 : decode cX0_watch 41 = .ok (.iload_n 1, 1) := by decide +kernel
theorem dX0_watch_42 : decode cX0_watch 42 = .ok (.iastore, 1) := by decide +kernel
theorem dX0_watch_43 : decode cX0_watch 43 = .ok (.aload_n 0, 1) := by decide +kernel
theorem dX0_watch_44 : decode cX0_watch 44 = .ok (.dup, 1) := by decide +kernel
theorem dX0_watch_45 : decode cX0_watch 45 = .ok (.getfield 24, 3) := by decide +kernel
theorem dX0_watch_48 : decode cX0_watch 48 = .ok (.iconst 1, 1) := by decide +kernel
theorem dX0_watch_49 : decode cX0_watch 49 = .ok (.iadd, 1) := by decide +kernel
theorem dX0_watch_50 : decode cX0_watch 50 = .ok (.putfield 24, 3) := by decide +kernel
theorem dX0_watch_53 : decode cX0_watch 53 = .ok (.iinc 1 1, 3) := by decide +kernel
theorem dX0_watch_56 : decode cX0_watch 56 = .ok (.goto (-49), 3) := by decide +kernel
theorem dX0_watch_59 : decode cX0_watch 59 = .ok (.return_, 1) := by decide +kernel
theorem dX0_lacking_0 : decode cX0_lacking 0 = .ok (.iconst 0, 1) := by decide +kernel
theorem dX0_lacking_1 : decode cX0_lacking 1 = .ok (.istore_n 1, 1) := by decide +kernel
theorem dX0_lacking_2 : decode cX0_lacking 2 = .ok (.iconst 0, 1) := by decide +kernel
theorem dX0_lacking_3 : decode cX0_lacking 3 = .ok (.istore_n 2, 1) := by decide +kernel
theorem dX0_lacking_4 : decode cX0_lacking 4 = .ok (.iload_n 2, 1) := by decide +kernel
theorem dX0_lacking_5 : decode cX0_lacking 5 = .ok (.aload_n 0, 1) := by decide +kernel
theorem dX0_lacking_6 : decode cX0_lacking 6 = .ok (.getfield 24, 3) := by decide +kernel
theorem dX0_lacking_9 : decode cX0_lacking 9 = .ok (.if_icmp .ge 37, 3) := by decide +kernel
theorem dX0_lacking_12 : decode cX0_lacking 12 = .ok (.aload_n 0, 1) := by decide +kernel
theorem dX0_lacking_13 : decode cX0_lacking 13 = .ok (.getfield 21, 3) := by decide +kernel
theorem dX0_lacking_16 : decode cX0_lacking 16 = .ok (.iload_n 2, 1) := by decide +kernel
theorem dX0_lacking_17 : decode cX0_lacking 17 = .ok (.iaload, 1) := by decide +kernel
theorem dX0_lacking_18 : decode cX0_lacking 18 = .ok (.istore_n 3, 1) := by decide +kernel
theorem dX0_lacking_19 : decode cX0_lacking 19 = .ok (.aload_n 0, 1) := by decide +kernel
theorem dX0_lacking_20 : decode cX0_lacking 20 = .ok (.getfield 18, 3) := by decide +kernel
theorem dX0_lacking_23 : decode cX0_lacking 23 = .ok (.iload_n 3, 1) := by decide +kernel
theorem dX0_lacking_24 : decode cX0_lacking 24 = .ok (.iaload, 1) := by decide +kernel
theorem dX0_lacking_25 : decode cX0_lacking 25 = .ok (.aload_n 0, 1) := by decide +kernel
theorem dX0_lacking_26 : decode cX0_lacking 26 = .ok (.getfield 9, 3) := by decide +kernel
theorem dX0_lacking_29 : decode cX0_lacking 29 = .ok (.iload_n 3, 1) := by decide +kernel
theorem dX0_lacking_30 : decode cX0_lacking 30 = .ok (.iaload, 1) := by decide +kernel
theorem dX0_lacking_31 : decode cX0_lacking 31 = .ok (.if_icmp .ge 9, 3) := by decide +kernel
theorem dX0_lacking_34 : decode cX0_lacking 34 = .ok (.iload_n 1, 1) := by decide +kernel
theorem dX0_lacking_35 : decode cX0_lacking 35 = .ok (.iconst 1, 1) := by decide +kernel
theorem dX0_lacking_36 : decode cX0_lacking 36 = .ok (.iload_n 3, 1) := by decide +kernel
theorem dX0_lacking_37 : decode cX0_lacking 37 = .ok (.ishl, 1) := by decide +kernel
theorem dX0_lacking_38 : decode cX0_lacking 38 = .ok (.ior, 1) := by decide +kernel
theorem dX0_lacking_39 : decode cX0_lacking 39 = .ok (.istore_n 1, 1) := by decide +kernel
theorem dX0_lacking_40 : decode cX0_lacking 40 = .ok (.iinc 2 1, 3) := by decide +kernel
theorem dX0_lacking_43 : decode cX0_lacking 43 = .ok (.goto (-39), 3) := by decide +kernel
theorem dX0_lacking_46 : decode cX0_lacking 46 = .ok (.iload_n 1, 1) := by decide +kernel
theorem dX0_lacking_47 : decode cX0_lacking 47 = .ok (.ireturn, 1) := by decide +kernel
theorem dX0_enoughWith_0 : decode cX0_enoughWith 0 = .ok (.iconst 0, 1) := by decide +kernel
theorem dX0_enoughWith_1 : decode cX0_enoughWith 1 = .ok (.istore 4, 2) := by decide +kernel
theorem dX0_enoughWith_3 : decode cX0_enoughWith 3 = .ok (.iload 4, 2) := by decide +kernel
theorem dX0_enoughWith_5 : decode cX0_enoughWith 5 = .ok (.aload_n 0, 1) := by decide +kernel
theorem dX0_enoughWith_6 : decode cX0_enoughWith 6 = .ok (.getfield 24, 3) := by decide +kernel
theorem dX0_enoughWith_9 : decode cX0_enoughWith 9 = .ok (.if_icmp .ge 53, 3) := by decide +kernel
theorem dX0_enoughWith_12 : decode cX0_enoughWith 12 = .ok (.aload_n 0, 1) := by decide +kernel
theorem dX0_enoughWith_13 : decode cX0_enoughWith 13 = .ok (.getfield 21, 3) := by decide +kernel
theorem dX0_enoughWith_16 : decode cX0_enoughWith 16 = .ok (.iload 4, 2) := by decide +kernel
theorem dX0_enoughWith_18 : decode cX0_enoughWith 18 = .ok (.iaload, 1) := by decide +kernel
theorem dX0_enoughWith_19 : decode cX0_enoughWith 19 = .ok (.istore 5, 2) := by decide +kernel
theorem dX0_enoughWith_21 : decode cX0_enoughWith 21 = .ok (.iload_n 3, 1) := by decide +kernel
theorem dX0_enoughWith_22 : decode cX0_enoughWith 22 = .ok (.iload 5, 2) := by decide +kernel
theorem dX0_enoughWith_24 : decode cX0_enoughWith 24 = .ok (.ishr, 1) := by decide +kernel
theorem dX0_enoughWith_25 : decode cX0_enoughWith 25 = .ok (.iconst 1, 1) := by decide +kernel
theorem dX0_enoughWith_26 : decode cX0_enoughWith 26 = .ok (.iand, 1) := by decide +kernel
theorem dX0_enoughWith_27 : decode cX0_enoughWith 27 = .ok (.ifCond .eq 29, 3) := by decide +kernel
theorem dX0_enoughWith_30 : decode cX0_enoughWith 30 = .ok (.aload_n 0, 1) := by decide +kernel
theorem dX0_enoughWith_31 : decode cX0_enoughWith 31 = .ok (.getfield 18, 3) := by decide +kernel
theorem dX0_enoughWith_34 : decode cX0_enoughWith 34 = .ok (.iload 5, 2) := by decide +kernel
theorem dX0_enoughWith_36 : decode cX0_enoughWith 36 = .ok (.iaload, 1) := by decide +kernel
theorem dX0_enoughWith_37 : decode cX0_enoughWith 37 = .ok (.aload_n 1, 1) := by decide +kernel
theorem dX0_enoughWith_38 : decode cX0_enoughWith 38 = .ok (.iload_n 2, 1) := by decide +kernel
theorem dX0_enoughWith_39 : decode cX0_enoughWith 39 = .ok (.iload 5, 2) := by decide +kernel
theorem dX0_enoughWith_41 : decode cX0_enoughWith 41 = .ok (.iadd, 1) := by decide +kernel
theorem dX0_enoughWith_42 : decode cX0_enoughWith 42 = .ok (.iaload, 1) := by decide +kernel
theorem dX0_enoughWith_43 : decode cX0_enoughWith 43 = .ok (.iadd, 1) := by decide +kernel
theorem dX0_enoughWith_44 : decode cX0_enoughWith 44 = .ok (.aload_n 0, 1) := by decide +kernel
theorem dX0_enoughWith_45 : decode cX0_enoughWith 45 = .ok (.getfield 9, 3) := by decide +kernel
theorem dX0_enoughWith_48 : decode cX0_enoughWith 48 = .ok (.iload 5, 2) := by decide +kernel
theorem dX0_enoughWith_50 : decode cX0_enoughWith 50 = .ok (.iaload, 1) := by decide +kernel
theorem dX0_enoughWith_51 : decode cX0_enoughWith 51 = .ok (.if_icmp .ge 5, 3) := by decide +kernel
theorem dX0_enoughWith_54 : decode cX0_enoughWith 54 = .ok (.iconst 0, 1) := by decide +kernel
theorem dX0_enoughWith_55 : decode cX0_enoughWith 55 = .ok (.ireturn, 1) := by decide +kernel
theorem dX0_enoughWith_56 : decode cX0_enoughWith 56 = .ok (.iinc 4 1, 3) := by decide +kernel
theorem dX0_enoughWith_59 : decode cX0_enoughWith 59 = .ok (.goto (-56), 3) := by decide +kernel
theorem dX0_enoughWith_62 : decode cX0_enoughWith 62 = .ok (.iconst 1, 1) := by decide +kernel
theorem dX0_enoughWith_63 : decode cX0_enoughWith 63 = .ok (.ireturn, 1) := by decide +kernel
theorem dX0_isBearable_0 : decode cX0_isBearable 0 = .ok (.iconst 0, 1) := by decide +kernel
theorem dX0_isBearable_1 : decode cX0_isBearable 1 = .ok (.istore_n 1, 1) := by decide +kernel
theorem dX0_isBearable_2 : decode cX0_isBearable 2 = .ok (.iload_n 1, 1) := by decide +kernel
theorem dX0_isBearable_3 : decode cX0_isBearable 3 = .ok (.aload_n 0, 1) := by decide +kernel
theorem dX0_isBearable_4 : decode cX0_isBearable 4 = .ok (.getfield 24, 3) := by decide +kernel
theorem dX0_isBearable_7 : decode cX0_isBearable 7 = .ok (.if_icmp .ge 36, 3) := by decide +kernel
theorem dX0_isBearable_10 : decode cX0_isBearable 10 = .ok (.aload_n 0, 1) := by decide +kernel
theorem dX0_isBearable_11 : decode cX0_isBearable 11 = .ok (.getfield 18, 3) := by decide +kernel
theorem dX0_isBearable_14 : decode cX0_isBearable 14 = .ok (.aload_n 0, 1) := by decide +kernel
theorem dX0_isBearable_15 : decode cX0_isBearable 15 = .ok (.getfield 21, 3) := by decide +kernel
theorem dX0_isBearable_18 : decode cX0_isBearable 18 = .ok (.iload_n 1, 1) := by decide +kernel
theorem dX0_isBearable_19 : decode cX0_isBearable 19 = .ok (.iaload, 1) := by decide +kernel
theorem dX0_isBearable_20 : decode cX0_isBearable 20 = .ok (.iaload, 1) := by decide +kernel
theorem dX0_isBearable_21 : decode cX0_isBearable 21 = .ok (.aload_n 0, 1) := by decide +kernel
theorem dX0_isBearable_22 : decode cX0_isBearable 22 = .ok (.getfield 15, 3) := by decide +kernel
theorem dX0_isBearable_25 : decode cX0_isBearable 25 = .ok (.aload_n 0, 1) := by decide +kernel
theorem dX0_isBearable_26 : decode cX0_isBearable 26 = .ok (.getfield 21, 3) := by decide +kernel
theorem dX0_isBearable_29 : decode cX0_isBearable 29 = .ok (.iload_n 1, 1) := by decide +kernel
theorem dX0_isBearable_30 : decode cX0_isBearable 30 = .ok (.iaload, 1) := by decide +kernel
theorem dX0_isBearable_31 : decode cX0_isBearable 31 = .ok (.iaload, 1) := by decide +kernel
theorem dX0_isBearable_32 : decode cX0_isBearable 32 = .ok (.if_icmp .le 5, 3) := by decide +kernel
theorem dX0_isBearable_35 : decode cX0_isBearable 35 = .ok (.iconst 0, 1) := by decide +kernel
theorem dX0_isBearable_36 : decode cX0_isBearable 36 = .ok (.ireturn, 1) := by decide +kernel
theorem dX0_isBearable_37 : decode cX0_isBearable 37 = .ok (.iinc 1 1, 3) := by decide +kernel
theorem dX0_isBearable_40 : decode cX0_isBearable 40 = .ok (.goto (-38), 3) := by decide +kernel
theorem dX0_isBearable_43 : decode cX0_isBearable 43 = .ok (.iconst 1, 1) := by decide +kernel
theorem dX0_isBearable_44 : decode cX0_isBearable 44 = .ok (.ireturn, 1) := by decide +kernel
theorem dX0_add_0 : decode cX0_add 0 = .ok (.iconst 0, 1) := by decide +kernel
theorem dX0_add_1 : decode cX0_add 1 = .ok (.istore 4, 2) := by decide +kernel
theorem dX0_add_3 : decode cX0_add 3 = .ok (.iload 4, 2) := by decide +kernel
theorem dX0_add_5 : decode cX0_add 5 = .ok (.aload_n 0, 1) := by decide +kernel
theorem dX0_add_6 : decode cX0_add 6 = .ok (.getfield 24, 3) := by decide +kernel
theorem dX0_add_9 : decode cX0_add 9 = .ok (.if_icmp .ge 37, 3) := by decide +kernel
theorem dX0_add_12 : decode cX0_add 12 = .ok (.aload_n 0, 1) := by decide +kernel
theorem dX0_add_13 : decode cX0_add 13 = .ok (.getfield 18, 3) := by decide +kernel
theorem dX0_add_16 : decode cX0_add 16 = .ok (.aload_n 0, 1) := by decide +kernel
theorem dX0_add_17 : decode cX0_add 17 = .ok (.getfield 21, 3) := by decide +kernel
theorem dX0_add_20 : decode cX0_add 20 = .ok (.iload 4, 2) := by decide +kernel
theorem dX0_add_22 : decode cX0_add 22 = .ok (.iaload, 1) := by decide +kernel
theorem dX0_add_23 : decode cX0_add 23 = .ok (.dup2, 1) := by decide +kernel
theorem dX0_add_24 : decode cX0_add 24 = .ok (.iaload, 1) := by decide +kernel
theorem dX0_add_25 : decode cX0_add 25 = .ok (.iload_n 3, 1) := by decide +kernel
theorem dX0_add_26 : decode cX0_add 26 = .ok (.aload_n 1, 1) := by decide +kernel
theorem dX0_add_27 : decode cX0_add 27 = .ok (.iload_n 2, 1) := by decide +kernel
theorem dX0_add_28 : decode cX0_add 28 = .ok (.aload_n 0, 1) := by decide +kernel
theorem dX0_add_29 : decode cX0_add 29 = .ok (.getfield 21, 3) := by decide +kernel
theorem dX0_add_32 : decode cX0_add 32 = .ok (.iload 4, 2) := by decide +kernel
theorem dX0_add_34 : decode cX0_add 34 = .ok (.iaload, 1) := by decide +kernel
theorem dX0_add_35 : decode cX0_add 35 = .ok (.iadd, 1) := by decide +kernel
theorem dX0_add_36 : decode cX0_add 36 = .ok (.iaload, 1) := by decide +kernel
theorem dX0_add_37 : decode cX0_add 37 = .ok (.imul, 1) := by decide +kernel
theorem dX0_add_38 : decode cX0_add 38 = .ok (.iadd, 1) := by decide +kernel
theorem dX0_add_39 : decode cX0_add 39 = .ok (.iastore, 1) := by decide +kernel
theorem dX0_add_40 : decode cX0_add 40 = .ok (.iinc 4 1, 3) := by decide +kernel
theorem dX0_add_43 : decode cX0_add 43 = .ok (.goto (-40), 3) := by decide +kernel
theorem dX0_add_46 : decode cX0_add 46 = .ok (.return_, 1) := by decide +kernel
theorem dX1_init_0 : decode cX1_init 0 = .ok (.aload_n 0, 1) := by decide +kernel
theorem dX1_init_1 : decode cX1_init 1 = .ok (.invokespecial 3, 3) := by decide +kernel
theorem dX1_init_4 : decode cX1_init 4 = .ok (.aload_n 0, 1) := by decide +kernel
theorem dX1_init_5 : decode cX1_init 5 = .ok (.aconst_null, 1) := by decide +kernel
theorem dX1_init_6 : decode cX1_init 6 = .ok (.putfield 9, 3) := by decide +kernel
theorem dX1_init_9 : decode cX1_init 9 = .ok (.aload_n 0, 1) := by decide +kernel
theorem dX1_init_10 : decode cX1_init 10 = .ok (.iconst 0, 1) := by decide +kernel
theorem dX1_init_11 : decode cX1_init 11 = .ok (.putfield 15, 3) := by decide +kernel
theorem dX1_init_14 : decode cX1_init 14 = .ok (.aload_n 0, 1) := by decide +kernel
theorem dX1_init_15 : decode cX1_init 15 = .ok (.iconst 0, 1) := by decide +kernel
theorem dX1_init_16 : decode cX1_init 16 = .ok (.putfield 19, 3) := by decide +kernel
theorem dX1_init_19 : decode cX1_init 19 = .ok (.aload_n 0, 1) := by decide +kernel
theorem dX1_init_20 : decode cX1_init 20 = .ok (.iconst 0, 1) := by decide +kernel
theorem dX1_init_21 : decode cX1_init 21 = .ok (.putfield 22, 3) := by decide +kernel
theorem dX1_init_24 : decode cX1_init 24 = .ok (.aload_n 0, 1) := by decide +kernel
theorem dX1_init_25 : decode cX1_init 25 = .ok (.iconst 0, 1) := by decide +kernel
theorem dX1_init_26 : decode cX1_init 26 = .ok (.putfield 25, 3) := by decide +kernel
theorem dX1_init_29 : decode cX1_init 29 = .ok (.aload_n 0, 1) := by decide +kernel
theorem dX1_init_30 : decode cX1_init 30 = .ok (.iconst 0, 1) := by decide +kernel
theorem dX1_init_31 : decode cX1_init 31 = .ok (.putfield 28, 3) := by decide +kernel
theorem dX1_init_34 : decode cX1_init 34 = .ok (.aload_n 0, 1) := by decide +kernel
theorem dX1_init_35 : decode cX1_init 35 = .ok (.ldc 31, 2) := by decide +kernel
theorem dX1_init_37 : decode cX1_init 37 = .ok (.putfield 32, 3) := by decide +kernel
theorem dX1_init_40 : decode cX1_init 40 = .ok (.aload_n 0, 1) := by decide +kernel
theorem dX1_init_41 : decode cX1_init 41 = .ok (.sipush 256, 3) := by decide +kernel
theorem dX1_init_44 : decode cX1_init 44 = .ok (.newarray .int, 2) := by decide +kernel
theorem dX1_init_46 : decode cX1_init 46 = .ok (.putfield 35, 3) := by decide +kernel
theorem dX1_init_49 : decode cX1_init 49 = .ok (.aload_n 0, 1) := by decide +kernel
theorem dX1_init_50 : decode cX1_init 50 = .ok (.sipush 6144, 3) := by decide +kernel
theorem dX1_init_53 : decode cX1_init 53 = .ok (.newarray .int, 2) := by decide +kernel
theorem dX1_init_55 : decode cX1_init 55 = .ok (.putfield 39, 3) := by decide +kernel
theorem dX1_init_58 : decode cX1_init 58 = .ok (.aload_n 0, 1) := by decide +kernel
theorem dX1_init_59 : decode cX1_init 59 = .ok (.sipush 256, 3) := by decide +kernel
theorem dX1_init_62 : decode cX1_init 62 = .ok (.newarray .int, 2) := by decide +kernel
theorem dX1_init_64 : decode cX1_init 64 = .ok (.putfield 42, 3) := by decide +kernel
theorem dX1_init_67 : decode cX1_init 67 = .ok (.return_, 1) := by decide +kernel
theorem dX1_plan_0 : decode cX1_plan 0 = .ok (.aload_n 0, 1) := by decide +kernel
theorem dX1_plan_1 : decode cX1_plan 1 = .ok (.getfield 9, 3) := by decide +kernel
theorem dX1_plan_4 : decode cX1_plan 4 = .ok (.aload_n 1, 1) := by decide +kernel
theorem dX1_plan_5 : decode cX1_plan 5 = .ok (.if_acmp .ne 28, 3) := by decide +kernel
theorem dX1_plan_8 : decode cX1_plan 8 = .ok (.aload_n 0, 1) := by decide +kernel
theorem dX1_plan_9 : decode cX1_plan 9 = .ok (.getfield 15, 3) := by decide +kernel
theorem dX1_plan_12 : decode cX1_plan 12 = .ok (.iload_n 2, 1) := by decide +kernel
theorem dX1_plan_13 : decode cX1_plan 13 = .ok (.if_icmp .ne 20, 3) := by decide +kernel
theorem dX1_plan_16 : decode cX1_plan 16 = .ok (.aload_n 0, 1) := by decide +kernel
theorem dX1_plan_17 : decode cX1_plan 17 = .ok (.getfield 19, 3) := by decide +kernel
theorem dX1_plan_20 : decode cX1_plan 20 = .ok (.iload_n 3, 1) := by decide +kernel
theorem dX1_plan_21 : decode cX1_plan 21 = .ok (.if_icmp .ne 12, 3) := by decide +kernel
theorem dX1_plan_24 : decode cX1_plan 24 = .ok (.aload_n 0, 1) := by decide +kernel
theorem dX1_plan_25 : decode cX1_plan 25 = .ok (.getfield 22, 3) := by decide +kernel
theorem dX1_plan_28 : decode cX1_plan 28 = .ok (.iload 4, 2) := by decide +kernel
theorem dX1_plan_30 : decode cX1_plan 30 = .ok (.if_icmp .eq 29, 3) := by decide +kernel
theorem dX1_plan_33 : decode cX1_plan 33 = .ok (.aload_n 0, 1) := by decide +kernel
theorem dX1_plan_34 : decode cX1_plan 34 = .ok (.aload_n 1, 1) := by decide +kernel
theorem dX1_plan_35 : decode cX1_plan 35 = .ok (.putfield 9, 3) := by decide +kernel
theorem dX1_plan_38 : decode cX1_plan 38 = .ok (.aload_n 0, 1) := by decide +kernel
theorem dX1_plan_39 : decode cX1_plan 39 = .ok (.iload_n 2, 1) := by decide +kernel
theorem dX1_plan_40 : decode cX1_plan 40 = .ok (.putfield 15, 3) := by decide +kernel
theorem dX1_plan_43 : decode cX1_plan 43 = .ok (.aload_n 0, 1) := by decide +kernel
theorem dX1_plan_44 : decode cX1_plan 44 = .ok (.iload_n 3, 1) := by decide +kernel
theorem dX1_plan_45 : decode cX1_plan 45 = .ok (.putfield 19, 3) := by decide +kernel
theorem dX1_plan_48 : decode cX1_plan 48 = .ok (.aload_n 0, 1) := by decide +kernel
theorem dX1_plan_49 : decode cX1_plan 49 = .ok (.iload 4, 2) := by decide +kernel
theorem dX1_plan_51 : decode cX1_plan 51 = .ok (.putfield 22, 3) := by decide +kernel
theorem dX1_plan_54 : decode cX1_plan 54 = .ok (.aload_n 0, 1) := by decide +kernel
theorem dX1_plan_55 : decode cX1_plan 55 = .ok (.aload_n 1, 1) := by decide +kernel
theorem dX1_plan_56 : decode cX1_plan 56 = .ok (.invokevirtual 45, 3) := by decide +kernel
theorem dX1_plan_59 : decode cX1_plan 59 = .ok (.aload_n 0, 1) := by decide +kernel
theorem dX1_plan_60 : decode cX1_plan 60 = .ok (.getfield 32, 3) := by decide +kernel
theorem dX1_plan_63 : decode cX1_plan 63 = .ok (.ldc 31, 2) := by decide +kernel
theorem dX1_plan_65 : decode cX1_plan 65 = .ok (.if_icmp .ge 10, 3) := by decide +kernel
theorem dX1_plan_68 : decode cX1_plan 68 = .ok (.aload_n 0, 1) := by decide +kernel
theorem dX1_plan_69 : decode cX1_plan 69 = .ok (.getfield 32, 3) := by decide +kernel
theorem dX1_plan_72 : decode cX1_plan 72 = .ok (.goto 4, 3) := by decide +kernel
theorem dX1_plan_75 : decode cX1_plan 75 = .ok (.iconst (-1), 1) := by decide +kernel
theorem dX1_plan_76 : decode cX1_plan 76 = .ok (.ireturn, 1) := by decide +kernel
theorem dX1_fillHours_0 : decode cX1_fillHours 0 = .ok (.aload_n 0, 1) := by decide +kernel
theorem dX1_fillHours_1 : decode cX1_fillHours 1 = .ok (.aload_n 1, 1) := by decide +kernel
theorem dX1_fillHours_2 : decode cX1_fillHours 2 = .ok (.getfield 49, 3) := by decide +kernel
theorem dX1_fillHours_5 : decode cX1_fillHours 5 = .ok (.putfield 25, 3) := by decide +kernel
theorem dX1_fillHours_8 : decode cX1_fillHours 8 = .ok (.aload_n 0, 1) := by decide +kernel
theorem dX1_fillHours_9 : decode cX1_fillHours 9 = .ok (.aload_n 0, 1) := by decide +kernel
theorem dX1_fillHours_10 : decode cX1_fillHours 10 = .ok (.getfield 15, 3) := by decide +kernel
theorem dX1_fillHours_13 : decode cX1_fillHours 13 = .ok (.iconst 2, 1) := by decide +kernel
theorem dX1_fillHours_14 : decode cX1_fillHours 14 = .ok (.if_icmp .ne 10, 3) := by decide +kernel
theorem dX1_fillHours_17 : decode cX1_fillHours 17 = .ok (.aload_n 0, 1) := by decide +kernel
theorem dX1_fillHours_18 : decode cX1_fillHours 18 = .ok (.getfield 25, 3) := by decide +kernel
theorem dX1_fillHours_21 : decode cX1_fillHours 21 = .ok (.goto 11, 3) := by decide +kernel
theorem dX1_fillHours_24 : decode cX1_fillHours 24 = .ok (.aload_n 0, 1) := by decide +kernel
theorem dX1_fillHours_25 : decode cX1_fillHours 25 = .ok (.getfield 25, 3) := by decide +kernel
theorem dX1_fillHours_28 : decode cX1_fillHours 28 = .ok (.iconst 1, 1) := by decide +kernel
theorem dX1_fillHours_29 : decode cX1_fillHours 29 = .ok (.invokestatic 52, 3) := by decide +kernel
theorem dX1_fillHours_32 : decode cX1_fillHours 32 = .ok (.putfield 28, 3) := by decide +kernel
theorem dX1_fillHours_35 : decode cX1_fillHours 35 = .ok (.iconst 0, 1) := by decide +kernel
theorem dX1_fillHours_36 : decode cX1_fillHours 36 = .ok (.istore_n 2, 1) := by decide +kernel
theorem dX1_fillHours_37 : decode cX1_fillHours 37 = .ok (.iload_n 2, 1) := by decide +kernel
theorem dX1_fillHours_38 : decode cX1_fillHours 38 = .ok (.aload_n 0, 1) := by decide +kernel
theorem dX1_fillHours_39 : decode cX1_fillHours 39 = .ok (.getfield 35, 3) := by decide +kernel
theorem dX1_fillHours_42 : decode cX1_fillHours 42 = .ok (.arraylength, 1) := by decide +kernel
theorem dX1_fillHours_43 : decode cX1_fillHours 43 = .ok (.if_icmp .ge 36, 3) := by decide +kernel
theorem dX1_fillHours_46 : decode cX1_fillHours 46 = .ok (.aload_n 0, 1) := by decide +kernel
theorem dX1_fillHours_47 : decode cX1_fillHours 47 = .ok (.getfield 35, 3) := by decide +kernel
theorem dX1_fillHours_50 : decode cX1_fillHours 50 = .ok (.iload_n 2, 1) := by decide +kernel
theorem dX1_fillHours_51 : decode cX1_fillHours 51 = .ok (.aload_n 1, 1) := by decide +kernel
theorem dX1_fillHours_52 : decode cX1_fillHours 52 = .ok (.getfield 58, 3) := by decide +kernel
theorem dX1_fillHours_55 : decode cX1_fillHours 55 = .ok (.iload_n 2, 1) := by decide +kernel
theorem dX1_fillHours_56 : decode cX1_fillHours 56 = .ok (.iaload, 1) := by decide +kernel
theorem dX1_fillHours_57 : decode cX1_fillHours 57 = .ok (.iconst (-1), 1) := by decide +kernel
theorem dX1_fillHours_58 : decode cX1_fillHours 58 = .ok (.if_icmp .ne 8, 3) := by decide +kernel
theorem dX1_fillHours_61 : decode cX1_fillHours 61 = .ok (.ldc 31, 2) := by decide +kernel
theorem dX1_fillHours_63 : decode cX1_fillHours 63 = .ok (.goto 9, 3) := by decide +kernel
theorem dX1_fillHours_66 : decode cX1_fillHours 66 = .ok (.aload_n 1, 1) := by decide +kernel
theorem dX1_fillHours_67 : decode cX1_fillHours 67 = .ok (.getfield 58, 3) := by decide +kernel
theorem dX1_fillHours_70 : decode cX1_fillHours 70 = .ok (.iload_n 2, 1) := by decide +kernel
theorem dX1_fillHours_71 : decode cX1_fillHours 71 = .ok (.iaload, 1) := by decide +kernel
theorem dX1_fillHours_72 : decode cX1_fillHours 72 = .ok (.iastore, 1) := by decide +kernel
theorem dX1_fillHours_73 : decode cX1_fillHours 73 = .ok (.iinc 2 1, 3) := by decide +kernel
theorem dX1_fillHours_76 : decode cX1_fillHours 76 = .ok (.goto (-39), 3) := by decide +kernel
theorem dX1_fillHours_79 : decode cX1_fillHours 79 = .ok (.iconst 0, 1) := by decide +kernel
theorem dX1_fillHours_80 : decode cX1_fillHours 80 = .ok (.istore_n 2, 1) := by decide +kernel
theorem dX1_fillHours_81 : decode cX1_fillHours 81 = .ok (.aload_n 0, 1) := by decide +kernel
theorem dX1_fillHours_82 : decode cX1_fillHours 82 = .ok (.getfield 22, 3) := by decide +kernel
theorem dX1_fillHours_85 : decode cX1_fillHours 85 = .ok (.istore_n 3, 1) := by decide +kernel
theorem dX1_fillHours_86 : decode cX1_fillHours 86 = .ok (.iload_n 3, 1) := by decide +kernel
theorem dX1_fillHours_87 : decode cX1_fillHours 87 = .ok (.aload_n 0, 1) := by decide +kernel
theorem dX1_fillHours_88 : decode cX1_fillHours 88 = .ok (.getfield 19, 3) := by decide +kernel
theorem dX1_fillHours_91 : decode cX1_fillHours 91 = .ok (.if_icmp .lt 72, 3) := by decide +kernel
theorem dX1_fillHours_94 : decode cX1_fillHours 94 = .ok (.aload_n 1, 1) := by decide +kernel
theorem dX1_fillHours_95 : decode cX1_fillHours 95 = .ok (.iload_n 3, 1) := by decide +kernel
theorem dX1_fillHours_96 : decode cX1_fillHours 96 = .ok (.invokevirtual 61, 3) := by decide +kernel
theorem dX1_fillHours_99 : decode cX1_fillHours 99 = .ok (.istore 4, 2) := by decide +kernel
theorem dX1_fillHours_101 : decode cX1_fillHours 101 = .ok (.iload_n 3, 1) := by decide +kernel
theorem dX1_fillHours_102 : decode cX1_fillHours 102 = .ok (.aload_n 0, 1) := by decide +kernel
theorem dX1_fillHours_103 : decode cX1_fillHours 103 = .ok (.getfield 22, 3) := by decide +kernel
theorem dX1_fillHours_106 : decode cX1_fillHours 106 = .ok (.if_icmp .ge 40, 3) := by decide +kernel
theorem dX1_fillHours_109 : decode cX1_fillHours 109 = .ok (.iload 4, 2) := by decide +kernel
theorem dX1_fillHours_111 : decode cX1_fillHours 111 = .ok (.iload_n 2, 1) := by decide +kernel
theorem dX1_fillHours_112 : decode cX1_fillHours 112 = .ok (.if_icmp .ne 34, 3) := by decide +kernel
theorem dX1_fillHours_115 : decode cX1_fillHours 115 = .ok (.aload_n 0, 1) := by decide +kernel
theorem dX1_fillHours_116 : decode cX1_fillHours 116 = .ok (.getfield 39, 3) := by decide +kernel
theorem dX1_fillHours_119 : decode cX1_fillHours 119 = .ok (.iload_n 3, 1) := by decide +kernel
theorem dX1_fillHours_120 : decode cX1_fillHours 120 = .ok (.iconst 1, 1) := by decide +kernel
theorem dX1_fillHours_121 : decode cX1_fillHours 121 = .ok (.iadd, 1) := by decide +kernel
theorem dX1_fillHours_122 : decode cX1_fillHours 122 = .ok (.iconst 0, 1) := by decide +kernel
theorem dX1_fillHours_123 : decode cX1_fillHours 123 = .ok (.iconst 0, 1) := by decide +kernel
theorem dX1_fillHours_124 : decode cX1_fillHours 124 = .ok (.invokestatic 65, 3) := by decide +kernel
theorem dX1_fillHours_127 : decode cX1_fillHours 127 = .ok (.aload_n 0, 1) := by decide +kernel
theorem dX1_fillHours_128 : decode cX1_fillHours 128 = .ok (.getfield 39, 3) := by decide +kernel
theorem dX1_fillHours_131 : decode cX1_fillHours 131 = .ok (.iload_n 3, 1) := by decide +kernel
theorem dX1_fillHours_132 : decode cX1_fillHours 132 = .ok (.iconst 0, 1) := by decide +kernel
theorem dX1_fillHours_133 : decode cX1_fillHours 133 = .ok (.iconst 0, 1) := by decide +kernel
theorem dX1_fillHours_134 : decode cX1_fillHours 134 = .ok (.invokestatic 65, 3) := by decide +kernel
theorem dX1_fillHours_137 : decode cX1_fillHours 137 = .ok (.sipush 256, 3) := by decide +kernel
theorem dX1_fillHours_140 : decode cX1_fillHours 140 = .ok (.invokestatic 69, 3) := by decide +kernel
theorem dX1_fillHours_143 : decode cX1_fillHours 143 = .ok (.goto 11, 3) := by decide +kernel
theorem dX1_fillHours_146 : decode cX1_fillHours 146 = .ok (.aload_n 0, 1) := by decide +kernel
theorem dX1_fillHours_147 : decode cX1_fillHours 147 = .ok (.aload_n 1, 1) := by decide +kernel
theorem dX1_fillHours_148 : decode cX1_fillHours 148 = .ok (.iload_n 3, 1) := by decide +kernel
theorem dX1_fillHours_149 : decode cX1_fillHours 149 = .ok (.iload 4, 2) := by decide +kernel
theorem dX1_fillHours_151 : decode cX1_fillHours 151 = .ok (.invokevirtual 75, 3) := by decide +kernel
theorem dX1_fillHours_154 : decode cX1_fillHours 154 = .ok (.iload 4, 2) := by decide +kernel
theorem dX1_fillHours_156 : decode cX1_fillHours 156 = .ok (.istore_n 2, 1) := by decide +kernel
theorem dX1_fillHours_157 : decode cX1_fillHours 157 = .ok (.iinc 3 (-1), 3) := by decide +kernel
theorem dX1_fillHours_160 : decode cX1_fillHours 160 = .ok (.goto (-74), 3) := by decide +kernel
theorem dX1_fillHours_163 : decode cX1_fillHours 163 = .ok (.aload_n 0, 1) := by decide +kernel
theorem dX1_fillHours_164 : decode cX1_fillHours 164 = .ok (.aload_n 0, 1) := by decide +kernel
theorem dX1_fillHours_165 : decode cX1_fillHours 165 = .ok (.aload_n 0, 1) := by decide +kernel
theorem dX1_fillHours_166 : decode cX1_fillHours 166 = .ok (.getfield 19, 3) := by decide +kernel
theorem dX1_fillHours_169 : decode cX1_fillHours 169 = .ok (.invokevirtual 79, 3) := by decide +kernel
theorem dX1_fillHours_172 : decode cX1_fillHours 172 = .ok (.putfield 32, 3) := by decide +kernel
theorem dX1_fillHours_175 : decode cX1_fillHours 175 = .ok (.return_, 1) := by decide +kernel
theorem dX1_at_0 : decode cX1_at 0 = .ok (.iload_n 0, 1) := by decide +kernel
theorem dX1_at_1 : decode cX1_at 1 = .ok (.bipush 16, 2) := by decide +kernel
theorem dX1_at_3 : decode cX1_at 3 = .ok (.imul, 1) := by decide +kernel
theorem dX1_at_4 : decode cX1_at 4 = .ok (.iload_n 1, 1) := by decide +kernel
theorem dX1_at_5 : decode cX1_at 5 = .ok (.iadd, 1) := by decide +kernel
theorem dX1_at_6 : decode cX1_at 6 = .ok (.bipush 16, 2) := by decide +kernel
theorem dX1_at_8 : decode cX1_at 8 = .ok (.imul, 1) := by decide +kernel
theorem dX1_at_9 : decode cX1_at 9 = .ok (.iload_n 2, 1) := by decide +kernel
theorem dX1_at_10 : decode cX1_at 10 = .ok (.iadd, 1) := by decide +kernel
theorem dX1_at_11 : decode cX1_at 11 = .ok (.ireturn, 1) := by decide +kernel
theorem dX1_fillHour_0 : decode cX1_fillHour 0 = .ok (.iload_n 2, 1) := by decide +kernel
theorem dX1_fillHour_1 : decode cX1_fillHour 1 = .ok (.aload_n 0, 1) := by decide +kernel
theorem dX1_fillHour_2 : decode cX1_fillHour 2 = .ok (.getfield 22, 3) := by decide +kernel
theorem dX1_fillHour_5 : decode cX1_fillHour 5 = .ok (.if_icmp .ge 10, 3) := by decide +kernel
theorem dX1_fillHour_8 : decode cX1_fillHour 8 = .ok (.aload_n 0, 1) := by decide +kernel
theorem dX1_fillHour_9 : decode cX1_fillHour 9 = .ok (.iload_n 2, 1) := by decide +kernel
theorem dX1_fillHour_10 : decode cX1_fillHour 10 = .ok (.iconst 1, 1) := by decide +kernel
theorem dX1_fillHour_11 : decode cX1_fillHour 11 = .ok (.iadd, 1) := by decide +kernel
theorem dX1_fillHour_12 : decode cX1_fillHour 12 = .ok (.invokevirtual 82, 3) := by decide +kernel
theorem dX1_fillHour_15 : decode cX1_fillHour 15 = .ok (.iconst 0, 1) := by decide +kernel
theorem dX1_fillHour_16 : decode cX1_fillHour 16 = .ok (.istore 4, 2) := by decide +kernel
theorem dX1_fillHour_18 : decode cX1_fillHour 18 = .ok (.iload 4, 2) := by decide +kernel
theorem dX1_fillHour_20 : decode cX1_fillHour 20 = .ok (.aload_n 0, 1) := by decide +kernel
theorem dX1_fillHour_21 : decode cX1_fillHour 21 = .ok (.getfield 25, 3) := by decide +kernel
theorem dX1_fillHour_24 : decode cX1_fillHour 24 = .ok (.if_icmp .ge 106, 3) := by decide +kernel
theorem dX1_fillHour_27 : decode cX1_fillHour 27 = .ok (.iconst 0, 1) := by decide +kernel
theorem dX1_fillHour_28 : decode cX1_fillHour 28 = .ok (.istore 5, 2) := by decide +kernel
theorem dX1_fillHour_30 : decode cX1_fillHour 30 = .ok (.iload 5, 2) := by decide +kernel
theorem dX1_fillHour_32 : decode cX1_fillHour 32 = .ok (.aload_n 0, 1) := by decide +kernel
theorem dX1_fillHour_33 : decode cX1_fillHour 33 = .ok (.getfield 28, 3) := by decide +kernel
theorem dX1_fillHour_36 : decode cX1_fillHour 36 = .ok (.if_icmp .ge 88, 3) := by decide +kernel
theorem dX1_fillHour_39 : decode cX1_fillHour 39 = .ok (.aload_n 1, 1) := by decide +kernel
theorem dX1_fillHour_40 : decode cX1_fillHour 40 = .ok (.getfield 86, 3) := by decide +kernel
theorem dX1_fillHour_43 : decode cX1_fillHour 43 = .ok (.iload 4, 2) := by decide +kernel
theorem dX1_fillHour_45 : decode cX1_fillHour 45 = .ok (.iaload, 1) := by decide +kernel
theorem dX1_fillHour_46 : decode cX1_fillHour 46 = .ok (.aload_n 0, 1) := by decide +kernel
theorem dX1_fillHour_47 : decode cX1_fillHour 47 = .ok (.getfield 15, 3) := by decide +kernel
theorem dX1_fillHour_50 : decode cX1_fillHour 50 = .ok (.iconst 2, 1) := by decide +kernel
theorem dX1_fillHour_51 : decode cX1_fillHour 51 = .ok (.if_icmp .ne 13, 3) := by decide +kernel
theorem dX1_fillHour_54 : decode cX1_fillHour 54 = .ok (.aload_n 1, 1) := by decide +kernel
theorem dX1_fillHour_55 : decode cX1_fillHour 55 = .ok (.getfield 86, 3) := by decide +kernel
theorem dX1_fillHour_58 : decode cX1_fillHour 58 = .ok (.iload 5, 2) := by decide +kernel
theorem dX1_fillHour_60 : decode cX1_fillHour 60 = .ok (.iaload, 1) := by decide +kernel
theorem dX1_fillHour_61 : decode cX1_fillHour 61 = .ok (.goto 4, 3) := by decide +kernel
theorem dX1_fillHour_64 : decode cX1_fillHour 64 = .ok (.iconst 0, 1) := by decide +kernel
theorem dX1_fillHour_65 : decode cX1_fillHour 65 = .ok (.ior, 1) := by decide +kernel
theorem dX1_fillHour_66 : decode cX1_fillHour 66 = .ok (.istore 6, 2) := by decide +kernel
theorem dX1_fillHour_68 : decode cX1_fillHour 68 = .ok (.ldc 31, 2) := by decide +kernel
theorem dX1_fillHour_70 : decode cX1_fillHour 70 = .ok (.istore 7, 2) := by decide +kernel
theorem dX1_fillHour_72 : decode cX1_fillHour 72 = .ok (.iload_n 3, 1) := by decide +kernel
theorem dX1_fillHour_73 : decode cX1_fillHour 73 = .ok (.iload 6, 2) := by decide +kernel
theorem dX1_fillHour_75 : decode cX1_fillHour 75 = .ok (.iconst (-1), 1) := by decide +kernel
theorem dX1_fillHour_76 : decode cX1_fillHour 76 = .ok (.ixor, 1) := by decide +kernel
theorem dX1_fillHour_77 : decode cX1_fillHour 77 = .ok (.iand, 1) := by decide +kernel
theorem dX1_fillHour_78 : decode cX1_fillHour 78 = .ok (.ifCond .ne 25, 3) := by decide +kernel
theorem dX1_fillHour_81 : decode cX1_fillHour 81 = .ok (.iload_n 2, 1) := by decide +kernel
theorem dX1_fillHour_82 : decode cX1_fillHour 82 = .ok (.aload_n 0, 1) := by decide +kernel
theorem dX1_fillHour_83 : decode cX1_fillHour 83 = .ok (.getfield 22, 3) := by decide +kernel
theorem dX1_fillHour_86 : decode cX1_fillHour 86 = .ok (.if_icmp .ge 14, 3) := by decide +kernel
theorem dX1_fillHour_89 : decode cX1_fillHour 89 = .ok (.aload_n 0, 1) := by decide +kernel
theorem dX1_fillHour_90 : decode cX1_fillHour 90 = .ok (.iload 4, 2) := by decide +kernel
theorem dX1_fillHour_92 : decode cX1_fillHour 92 = .ok (.iload 5, 2) := by decide +kernel
theorem dX1_fillHour_94 : decode cX1_fillHour 94 = .ok (.invokevirtual 89, 3) := by decide +kernel
theorem dX1_fillHour_97 : decode cX1_fillHour 97 = .ok (.goto 4, 3) := by decide +kernel
theorem dX1_fillHour_100 : decode cX1_fillHour 100 = .ok (.iconst 0, 1) := by decide +kernel
theorem dX1_fillHour_101 : decode cX1_fillHour 101 = .ok (.istore 7, 2) := by decide +kernel
theorem dX1_fillHour_103 : decode cX1_fillHour 103 = .ok (.aload_n 0, 1) := by decide +kernel
theorem dX1_fillHour_104 : decode cX1_fillHour 104 = .ok (.getfield 39, 3) := by decide +kernel
theorem dX1_fillHour_107 : decode cX1_fillHour 107 = .ok (.iload_n 2, 1) := by decide +kernel
theorem dX1_fillHour_108 : decode cX1_fillHour 108 = .ok (.iload 4, 2) := by decide +kernel
theorem dX1_fillHour_110 : decode cX1_fillHour 110 = .ok (.iload 5, 2) := by decide +kernel
theorem dX1_fillHour_112 : decode cX1_fillHour 112 = .ok (.invokestatic 65, 3) := by decide +kernel
theorem dX1_fillHour_115 : decode cX1_fillHour 115 = .ok (.iload 7, 2) := by decide +kernel
theorem dX1_fillHour_117 : decode cX1_fillHour 117 = .ok (.iastore, 1) := by decide +kernel
theorem dX1_fillHour_118 : decode cX1_fillHour 118 = .ok (.iinc 5 1, 3) := by decide +kernel
theorem dX1_fillHour_121 : decode cX1_fillHour 121 = .ok (.goto (-91), 3) := by decide +kernel
theorem dX1_fillHour_124 : decode cX1_fillHour 124 = .ok (.iinc 4 1, 3) := by decide +kernel
theorem dX1_fillHour_127 : decode cX1_fillHour 127 = .ok (.goto (-109), 3) := by decide +kernel
theorem dX1_fillHour_130 : decode cX1_fillHour 130 = .ok (.return_, 1) := by decide +kernel
theorem dX1_fillHalf_0 : decode cX1_fillHalf 0 = .ok (.iconst 0, 1) := by decide +kernel
theorem dX1_fillHalf_1 : decode cX1_fillHalf 1 = .ok (.istore_n 2, 1) := by decide +kernel
theorem dX1_fillHalf_2 : decode cX1_fillHalf 2 = .ok (.iload_n 2, 1) := by decide +kernel
theorem dX1_fillHalf_3 : decode cX1_fillHalf 3 = .ok (.aload_n 0, 1) := by decide +kernel
theorem dX1_fillHalf_4 : decode cX1_fillHalf 4 = .ok (.getfield 25, 3) := by decide +kernel
theorem dX1_fillHalf_7 : decode cX1_fillHalf 7 = .ok (.if_icmp .ge 92, 3) := by decide +kernel
theorem dX1_fillHalf_10 : decode cX1_fillHalf 10 = .ok (.iconst 0, 1) := by decide +kernel
theorem dX1_fillHalf_11 : decode cX1_fillHalf 11 = .ok (.istore_n 3, 1) := by decide +kernel
theorem dX1_fillHalf_12 : decode cX1_fillHalf 12 = .ok (.iload_n 3, 1) := by decide +kernel
theorem dX1_fillHalf_13 : decode cX1_fillHalf 13 = .ok (.aload_n 0, 1) := by decide +kernel
theorem dX1_fillHalf_14 : decode cX1_fillHalf 14 = .ok (.getfield 28, 3) := by decide +kernel
theorem dX1_fillHalf_17 : decode cX1_fillHalf 17 = .ok (.if_icmp .ge 76, 3) := by decide +kernel
theorem dX1_fillHalf_20 : decode cX1_fillHalf 20 = .ok (.ldc 31, 2) := by decide +kernel
theorem dX1_fillHalf_22 : decode cX1_fillHalf 22 = .ok (.istore 4, 2) := by decide +kernel
theorem dX1_fillHalf_24 : decode cX1_fillHalf 24 = .ok (.iconst 0, 1) := by decide +kernel
theorem dX1_fillHalf_25 : decode cX1_fillHalf 25 = .ok (.istore 5, 2) := by decide +kernel
theorem dX1_fillHalf_27 : decode cX1_fillHalf 27 = .ok (.iload 5, 2) := by decide +kernel
theorem dX1_fillHalf_29 : decode cX1_fillHalf 29 = .ok (.aload_n 0, 1) := by decide +kernel
theorem dX1_fillHalf_30 : decode cX1_fillHalf 30 = .ok (.getfield 25, 3) := by decide +kernel
theorem dX1_fillHalf_33 : decode cX1_fillHalf 33 = .ok (.if_icmp .ge 41, 3) := by decide +kernel
theorem dX1_fillHalf_36 : decode cX1_fillHalf 36 = .ok (.iload 4, 2) := by decide +kernel
theorem dX1_fillHalf_38 : decode cX1_fillHalf 38 = .ok (.aload_n 0, 1) := by decide +kernel
theorem dX1_fillHalf_39 : decode cX1_fillHalf 39 = .ok (.getfield 35, 3) := by decide +kernel
theorem dX1_fillHalf_42 : decode cX1_fillHalf 42 = .ok (.iload_n 2, 1) := by decide +kernel
theorem dX1_fillHalf_43 : decode cX1_fillHalf 43 = .ok (.bipush 16, 2) := by decide +kernel
theorem dX1_fillHalf_45 : decode cX1_fillHalf 45 = .ok (.imul, 1) := by decide +kernel
theorem dX1_fillHalf_46 : decode cX1_fillHalf 46 = .ok (.iload 5, 2) := by decide +kernel
theorem dX1_fillHalf_48 : decode cX1_fillHalf 48 = .ok (.iadd, 1) := by decide +kernel
theorem dX1_fillHalf_49 : decode cX1_fillHalf 49 = .ok (.iaload, 1) := by decide +kernel
theorem dX1_fillHalf_50 : decode cX1_fillHalf 50 = .ok (.aload_n 0, 1) := by decide +kernel
theorem dX1_fillHalf_51 : decode cX1_fillHalf 51 = .ok (.getfield 39, 3) := by decide +kernel
theorem dX1_fillHalf_54 : decode cX1_fillHalf 54 = .ok (.iload_n 1, 1) := by decide +kernel
theorem dX1_fillHalf_55 : decode cX1_fillHalf 55 = .ok (.iload 5, 2) := by decide +kernel
theorem dX1_fillHalf_57 : decode cX1_fillHalf 57 = .ok (.iload_n 3, 1) := by decide +kernel
theorem dX1_fillHalf_58 : decode cX1_fillHalf 58 = .ok (.invokestatic 65, 3) := by decide +kernel
theorem dX1_fillHalf_61 : decode cX1_fillHalf 61 = .ok (.iaload, 1) := by decide +kernel
theorem dX1_fillHalf_62 : decode cX1_fillHalf 62 = .ok (.iadd, 1) := by decide +kernel
theorem dX1_fillHalf_63 : decode cX1_fillHalf 63 = .ok (.invokestatic 52, 3) := by decide +kernel
theorem dX1_fillHalf_66 : decode cX1_fillHalf 66 = .ok (.istore 4, 2) := by decide +kernel
theorem dX1_fillHalf_68 : decode cX1_fillHalf 68 = .ok (.iinc 5 1, 3) := by decide +kernel
theorem dX1_fillHalf_71 : decode cX1_fillHalf 71 = .ok (.goto (-44), 3) := by decide +kernel
theorem dX1_fillHalf_74 : decode cX1_fillHalf 74 = .ok (.aload_n 0, 1) := by decide +kernel
theorem dX1_fillHalf_75 : decode cX1_fillHalf 75 = .ok (.getfield 42, 3) := by decide +kernel
theorem dX1_fillHalf_78 : decode cX1_fillHalf 78 = .ok (.iload_n 2, 1) := by decide +kernel
theorem dX1_fillHalf_79 : decode cX1_fillHalf 79 = .ok (.bipush 16, 2) := by decide +kernel
theorem dX1_fillHalf_81 : decode cX1_fillHalf 81 = .ok (.imul, 1) := by decide +kernel
theorem dX1_fillHalf_82 : decode cX1_fillHalf 82 = .ok (.iload_n 3, 1) := by decide +kernel
theorem dX1_fillHalf_83 : decode cX1_fillHalf 83 = .ok (.iadd, 1) := by decide +kernel
theorem dX1_fillHalf_84 : decode cX1_fillHalf 84 = .ok (.iload 4, 2) := by decide +kernel
theorem dX1_fillHalf_86 : decode cX1_fillHalf 86 = .ok (.iastore, 1) := by decide +kernel
theorem dX1_fillHalf_87 : decode cX1_fillHalf 87 = .ok (.iinc 3 1, 3) := by decide +kernel
theorem dX1_fillHalf_90 : decode cX1_fillHalf 90 = .ok (.goto (-78), 3) := by decide +kernel
theorem dX1_fillHalf_93 : decode cX1_fillHalf 93 = .ok (.iinc 2 1, 3) := by decide +kernel
theorem dX1_fillHalf_96 : decode cX1_fillHalf 96 = .ok (.goto (-94), 3) := by decide +kernel
theorem dX1_fillHalf_99 : decode cX1_fillHalf 99 = .ok (.return_, 1) := by decide +kernel
theorem dX1_leastBehind_0 : decode cX1_leastBehind 0 = .ok (.ldc 31, 2) := by decide +kernel
theorem dX1_leastBehind_2 : decode cX1_leastBehind 2 = .ok (.istore_n 3, 1) := by decide +kernel
theorem dX1_leastBehind_3 : decode cX1_leastBehind 3 = .ok (.iconst 0, 1) := by decide +kernel
theorem dX1_leastBehind_4 : decode cX1_leastBehind 4 = .ok (.istore 4, 2) := by decide +kernel
theorem dX1_leastBehind_6 : decode cX1_leastBehind 6 = .ok (.iload 4, 2) := by decide +kernel
theorem dX1_leastBehind_8 : decode cX1_leastBehind 8 = .ok (.aload_n 0, 1) := by decide +kernel
theorem dX1_leastBehind_9 : decode cX1_leastBehind 9 = .ok (.getfield 28, 3) := by decide +kernel
theorem dX1_leastBehind_12 : decode cX1_leastBehind 12 = .ok (.if_icmp .ge 39, 3) := by decide +kernel
theorem dX1_leastBehind_15 : decode cX1_leastBehind 15 = .ok (.iload_n 3, 1) := by decide +kernel
theorem dX1_leastBehind_16 : decode cX1_leastBehind 16 = .ok (.aload_n 0, 1) := by decide +kernel
theorem dX1_leastBehind_17 : decode cX1_leastBehind 17 = .ok (.getfield 35, 3) := by decide +kernel
theorem dX1_leastBehind_20 : decode cX1_leastBehind 20 = .ok (.iload_n 2, 1) := by decide +kernel
theorem dX1_leastBehind_21 : decode cX1_leastBehind 21 = .ok (.bipush 16, 2) := by decide +kernel
theorem dX1_leastBehind_23 : decode cX1_leastBehind 23 = .ok (.imul, 1) := by decide +kernel
theorem dX1_leastBehind_24 : decode cX1_leastBehind 24 = .ok (.iload 4, 2) := by decide +kernel
theorem dX1_leastBehind_26 : decode cX1_leastBehind 26 = .ok (.iadd, 1) := by decide +kernel
theorem dX1_leastBehind_27 : decode cX1_leastBehind 27 = .ok (.iaload, 1) := by decide +kernel
theorem dX1_leastBehind_28 : decode cX1_leastBehind 28 = .ok (.aload_n 0, 1) := by decide +kernel
theorem dX1_leastBehind_29 : decode cX1_leastBehind 29 = .ok (.getfield 42, 3) := by decide +kernel
theorem dX1_leastBehind_32 : decode cX1_leastBehind 32 = .ok (.iload_n 1, 1) := by decide +kernel
theorem dX1_leastBehind_33 : decode cX1_leastBehind 33 = .ok (.bipush 16, 2) := by decide +kernel
theorem dX1_leastBehind_35 : decode cX1_leastBehind 35 = .ok (.imul, 1) := by decide +kernel
theorem dX1_leastBehind_36 : decode cX1_leastBehind 36 = .ok (.iload 4, 2) := by decide +kernel
theorem dX1_leastBehind_38 : decode cX1_leastBehind 38 = .ok (.iadd, 1) := by decide +kernel
theorem dX1_leastBehind_39 : decode cX1_leastBehind 39 = .ok (.iaload, 1) := by decide +kernel
theorem dX1_leastBehind_40 : decode cX1_leastBehind 40 = .ok (.iadd, 1) := by decide +kernel
theorem dX1_leastBehind_41 : decode cX1_leastBehind 41 = .ok (.invokestatic 52, 3) := by decide +kernel
theorem dX1_leastBehind_44 : decode cX1_leastBehind 44 = .ok (.istore_n 3, 1) := by decide +kernel
theorem dX1_leastBehind_45 : decode cX1_leastBehind 45 = .ok (.iinc 4 1, 3) := by decide +kernel
theorem dX1_leastBehind_48 : decode cX1_leastBehind 48 = .ok (.goto (-42), 3) := by decide +kernel
theorem dX1_leastBehind_51 : decode cX1_leastBehind 51 = .ok (.iload_n 3, 1) := by decide +kernel
theorem dX1_leastBehind_52 : decode cX1_leastBehind 52 = .ok (.ireturn, 1) := by decide +kernel
theorem dX1_least_0 : decode cX1_least 0 = .ok (.ldc 31, 2) := by decide +kernel
theorem dX1_least_2 : decode cX1_least 2 = .ok (.istore_n 2, 1) := by decide +kernel
theorem dX1_least_3 : decode cX1_least 3 = .ok (.iconst 0, 1) := by decide +kernel
theorem dX1_least_4 : decode cX1_least 4 = .ok (.istore_n 3, 1) := by decide +kernel
theorem dX1_least_5 : decode cX1_least 5 = .ok (.iload_n 3, 1) := by decide +kernel
theorem dX1_least_6 : decode cX1_least 6 = .ok (.aload_n 0, 1) := by decide +kernel
theorem dX1_least_7 : decode cX1_least 7 = .ok (.getfield 25, 3) := by decide +kernel
theorem dX1_least_10 : decode cX1_least 10 = .ok (.if_icmp .ge 44, 3) := by decide +kernel
theorem dX1_least_13 : decode cX1_least 13 = .ok (.iconst 0, 1) := by decide +kernel
theorem dX1_least_14 : decode cX1_least 14 = .ok (.istore 4, 2) := by decide +kernel
theorem dX1_least_16 : decode cX1_least 16 = .ok (.iload 4, 2) := by decide +kernel
theorem dX1_least_18 : decode cX1_least 18 = .ok (.aload_n 0, 1) := by decide +kernel
theorem dX1_least_19 : decode cX1_least 19 = .ok (.getfield 28, 3) := by decide +kernel
theorem dX1_least_22 : decode cX1_least 22 = .ok (.if_icmp .ge 26, 3) := by decide +kernel
theorem dX1_least_25 : decode cX1_least 25 = .ok (.iload_n 2, 1) := by decide +kernel
theorem dX1_least_26 : decode cX1_least 26 = .ok (.aload_n 0, 1) := by decide +kernel
theorem dX1_least_27 : decode cX1_least 27 = .ok (.getfield 39, 3) := by decide +kernel
theorem dX1_least_30 : decode cX1_least 30 = .ok (.iload_n 1, 1) := by decide +kernel
theorem dX1_least_31 : decode cX1_least 31 = .ok (.iload_n 3, 1) := by decide +kernel
theorem dX1_least_32 : decode cX1_least 32 = .ok (.iload 4, 2) := by decide +kernel
theorem dX1_least_34 : decode cX1_least 34 = .ok (.invokestatic 65, 3) := by decide +kernel
theorem dX1_least_37 : decode cX1_least 37 = .ok (.iaload, 1) := by decide +kernel
theorem dX1_least_38 : decode cX1_least 38 = .ok (.invokestatic 52, 3) := by decide +kernel
theorem dX1_least_41 : decode cX1_least 41 = .ok (.istore_n 2, 1) := by decide +kernel
theorem dX1_least_42 : decode cX1_least 42 = .ok (.iinc 4 1, 3) := by decide +kernel
theorem dX1_least_45 : decode cX1_least 45 = .ok (.goto (-29), 3) := by decide +kernel
theorem dX1_least_48 : decode cX1_least 48 = .ok (.iinc 3 1, 3) := by decide +kernel
theorem dX1_least_51 : decode cX1_least 51 = .ok (.goto (-46), 3) := by decide +kernel
theorem dX1_least_54 : decode cX1_least 54 = .ok (.iload_n 2, 1) := by decide +kernel
theorem dX1_least_55 : decode cX1_least 55 = .ok (.ireturn, 1) := by decide +kernel
theorem dX1_placeOf_0 : decode cX1_placeOf 0 = .ok (.aload_n 0, 1) := by decide +kernel
theorem dX1_placeOf_1 : decode cX1_placeOf 1 = .ok (.aload_n 0, 1) := by decide +kernel
theorem dX1_placeOf_2 : decode cX1_placeOf 2 = .ok (.getfield 19, 3) := by decide +kernel
theorem dX1_placeOf_5 : decode cX1_placeOf 5 = .ok (.iconst (-1), 1) := by decide +kernel
theorem dX1_placeOf_6 : decode cX1_placeOf 6 = .ok (.aload_n 0, 1) := by decide +kernel
theorem dX1_placeOf_7 : decode cX1_placeOf 7 = .ok (.getfield 32, 3) := by decide +kernel
theorem dX1_placeOf_10 : decode cX1_placeOf 10 = .ok (.invokevirtual 92, 3) := by decide +kernel
theorem dX1_placeOf_13 : decode cX1_placeOf 13 = .ok (.istore_n 3, 1) := by decide +kernel
theorem dX1_placeOf_14 : decode cX1_placeOf 14 = .ok (.aload_n 0, 1) := by decide +kernel
theorem dX1_placeOf_15 : decode cX1_placeOf 15 = .ok (.getfield 19, 3) := by decide +kernel
theorem dX1_placeOf_18 : decode cX1_placeOf 18 = .ok (.iconst 1, 1) := by decide +kernel
theorem dX1_placeOf_19 : decode cX1_placeOf 19 = .ok (.iadd, 1) := by decide +kernel
theorem dX1_placeOf_20 : decode cX1_placeOf 20 = .ok (.istore 4, 2) := by decide +kernel
theorem dX1_placeOf_22 : decode cX1_placeOf 22 = .ok (.iload 4, 2) := by decide +kernel
theorem dX1_placeOf_24 : decode cX1_placeOf 24 = .ok (.iload_n 2, 1) := by decide +kernel
theorem dX1_placeOf_25 : decode cX1_placeOf 25 = .ok (.if_icmp .gt 38, 3) := by decide +kernel
theorem dX1_placeOf_28 : decode cX1_placeOf 28 = .ok (.iload_n 3, 1) := by decide +kernel
theorem dX1_placeOf_29 : decode cX1_placeOf 29 = .ok (.iconst (-1), 1) := by decide +kernel
theorem dX1_placeOf_30 : decode cX1_placeOf 30 = .ok (.if_icmp .eq 33, 3) := by decide +kernel
theorem dX1_placeOf_33 : decode cX1_placeOf 33 = .ok (.aload_n 0, 1) := by decide +kernel
theorem dX1_placeOf_34 : decode cX1_placeOf 34 = .ok (.iload 4, 2) := by decide +kernel
theorem dX1_placeOf_36 : decode cX1_placeOf 36 = .ok (.iload_n 3, 1) := by decide +kernel
theorem dX1_placeOf_37 : decode cX1_placeOf 37 = .ok (.aload_n 0, 1) := by decide +kernel
theorem dX1_placeOf_38 : decode cX1_placeOf 38 = .ok (.getfield 39, 3) := by decide +kernel
theorem dX1_placeOf_41 : decode cX1_placeOf 41 = .ok (.iload 4, 2) := by decide +kernel
theorem dX1_placeOf_43 : decode cX1_placeOf 43 = .ok (.iconst 1, 1) := by decide +kernel
theorem dX1_placeOf_44 : decode cX1_placeOf 44 = .ok (.isub, 1) := by decide +kernel
theorem dX1_placeOf_45 : decode cX1_placeOf 45 = .ok (.iconst 0, 1) := by decide +kernel
theorem dX1_placeOf_46 : decode cX1_placeOf 46 = .ok (.iconst 0, 1) := by decide +kernel
theorem dX1_placeOf_47 : decode cX1_placeOf 47 = .ok (.invokestatic 65, 3) := by decide +kernel
theorem dX1_placeOf_50 : decode cX1_placeOf 50 = .ok (.iload_n 3, 1) := by decide +kernel
theorem dX1_placeOf_51 : decode cX1_placeOf 51 = .ok (.iadd, 1) := by decide +kernel
theorem dX1_placeOf_52 : decode cX1_placeOf 52 = .ok (.iaload, 1) := by decide +kernel
theorem dX1_placeOf_53 : decode cX1_placeOf 53 = .ok (.invokevirtual 92, 3) := by decide +kernel
theorem dX1_placeOf_56 : decode cX1_placeOf 56 = .ok (.istore_n 3, 1) := by decide +kernel
theorem dX1_placeOf_57 : decode cX1_placeOf 57 = .ok (.iinc 4 1, 3) := by decide +kernel
theorem dX1_placeOf_60 : decode cX1_placeOf 60 = .ok (.goto (-38), 3) := by decide +kernel
theorem dX1_placeOf_63 : decode cX1_placeOf 63 = .ok (.iload_n 1, 1) := by decide +kernel
theorem dX1_placeOf_64 : decode cX1_placeOf 64 = .ok (.ifCond .ne 10, 3) := by decide +kernel
theorem dX1_placeOf_67 : decode cX1_placeOf 67 = .ok (.iload_n 3, 1) := by decide +kernel
theorem dX1_placeOf_68 : decode cX1_placeOf 68 = .ok (.bipush 16, 2) := by decide +kernel
theorem dX1_placeOf_70 : decode cX1_placeOf 70 = .ok (.idiv, 1) := by decide +kernel
theorem dX1_placeOf_71 : decode cX1_placeOf 71 = .ok (.goto 7, 3) := by decide +kernel
theorem dX1_placeOf_74 : decode cX1_placeOf 74 = .ok (.iload_n 3, 1) := by decide +kernel
theorem dX1_placeOf_75 : decode cX1_placeOf 75 = .ok (.bipush 16, 2) := by decide +kernel
theorem dX1_placeOf_77 : decode cX1_placeOf 77 = .ok (.irem, 1) := by decide +kernel
theorem dX1_placeOf_78 : decode cX1_placeOf 78 = .ok (.ireturn, 1) := by decide +kernel
theorem dX1_firstPlaces_0 : decode cX1_firstPlaces 0 = .ok (.iconst 0, 1) := by decide +kernel
theorem dX1_firstPlaces_1 : decode cX1_firstPlaces 1 = .ok (.istore 4, 2) := by decide +kernel
theorem dX1_firstPlaces_3 : decode cX1_firstPlaces 3 = .ok (.iload 4, 2) := by decide +kernel
theorem dX1_firstPlaces_5 : decode cX1_firstPlaces 5 = .ok (.aload_n 0, 1) := by decide +kernel
theorem dX1_firstPlaces_6 : decode cX1_firstPlaces 6 = .ok (.getfield 25, 3) := by decide +kernel
theorem dX1_firstPlaces_9 : decode cX1_firstPlaces 9 = .ok (.if_icmp .ge 97, 3) := by decide +kernel
theorem dX1_firstPlaces_12 : decode cX1_firstPlaces 12 = .ok (.iconst 0, 1) := by decide +kernel
theorem dX1_firstPlaces_13 : decode cX1_firstPlaces 13 = .ok (.istore 5, 2) := by decide +kernel
theorem dX1_firstPlaces_15 : decode cX1_firstPlaces 15 = .ok (.iload 5, 2) := by decide +kernel
theorem dX1_firstPlaces_17 : decode cX1_firstPlaces 17 = .ok (.aload_n 0, 1) := by decide +kernel
theorem dX1_firstPlaces_18 : decode cX1_firstPlaces 18 = .ok (.getfield 28, 3) := by decide +kernel
theorem dX1_firstPlaces_21 : decode cX1_firstPlaces 21 = .ok (.if_icmp .ge 79, 3) := by decide +kernel
theorem dX1_firstPlaces_24 : decode cX1_firstPlaces 24 = .ok (.iconst 0, 1) := by decide +kernel
theorem dX1_firstPlaces_25 : decode cX1_firstPlaces 25 = .ok (.istore 6, 2) := by decide +kernel
theorem dX1_firstPlaces_27 : decode cX1_firstPlaces 27 = .ok (.iload_n 2, 1) := by decide +kernel
theorem dX1_firstPlaces_28 : decode cX1_firstPlaces 28 = .ok (.iconst (-1), 1) := by decide +kernel
theorem dX1_firstPlaces_29 : decode cX1_firstPlaces 29 = .ok (.if_icmp .eq 36, 3) := by decide +kernel
theorem dX1_firstPlaces_32 : decode cX1_firstPlaces 32 = .ok (.aload_n 0, 1) := by decide +kernel
theorem dX1_firstPlaces_33 : decode cX1_firstPlaces 33 = .ok (.getfield 35, 3) := by decide +kernel
theorem dX1_firstPlaces_36 : decode cX1_firstPlaces 36 = .ok (.iload_n 2, 1) := by decide +kernel
theorem dX1_firstPlaces_37 : decode cX1_firstPlaces 37 = .ok (.bipush 16, 2) := by decide +kernel
theorem dX1_firstPlaces_39 : decode cX1_firstPlaces 39 = .ok (.idiv, 1) := by decide +kernel
theorem dX1_firstPlaces_40 : decode cX1_firstPlaces 40 = .ok (.bipush 16, 2) := by decide +kernel
theorem dX1_firstPlaces_42 : decode cX1_firstPlaces 42 = .ok (.imul, 1) := by decide +kernel
theorem dX1_firstPlaces_43 : decode cX1_firstPlaces 43 = .ok (.iload 4, 2) := by decide +kernel
theorem dX1_firstPlaces_45 : decode cX1_firstPlaces 45 = .ok (.iadd, 1) := by decide +kernel
theorem dX1_firstPlaces_46 : decode cX1_firstPlaces 46 = .ok (.iaload, 1) := by decide +kernel
theorem dX1_firstPlaces_47 : decode cX1_firstPlaces 47 = .ok (.aload_n 0, 1) := by decide +kernel
theorem dX1_firstPlaces_48 : decode cX1_firstPlaces 48 = .ok (.getfield 35, 3) := by decide +kernel
theorem dX1_firstPlaces_51 : decode cX1_firstPlaces 51 = .ok (.iload_n 2, 1) := by decide +kernel
theorem dX1_firstPlaces_52 : decode cX1_firstPlaces 52 = .ok (.bipush 16, 2) := by decide +kernel
theorem dX1_firstPlaces_54 : decode cX1_firstPlaces 54 = .ok (.irem, 1) := by decide +kernel
theorem dX1_firstPlaces_55 : decode cX1_firstPlaces 55 = .ok (.bipush 16, 2) := by decide +kernel
theorem dX1_firstPlaces_57 : decode cX1_firstPlaces 57 = .ok (.imul, 1) := by decide +kernel
theorem dX1_firstPlaces_58 : decode cX1_firstPlaces 58 = .ok (.iload 5, 2) := by decide +kernel
theorem dX1_firstPlaces_60 : decode cX1_firstPlaces 60 = .ok (.iadd, 1) := by decide +kernel
theorem dX1_firstPlaces_61 : decode cX1_firstPlaces 61 = .ok (.iaload, 1) := by decide +kernel
theorem dX1_firstPlaces_62 : decode cX1_firstPlaces 62 = .ok (.iadd, 1) := by decide +kernel
theorem dX1_firstPlaces_63 : decode cX1_firstPlaces 63 = .ok (.istore 6, 2) := by decide +kernel
theorem dX1_firstPlaces_65 : decode cX1_firstPlaces 65 = .ok (.iload 6, 2) := by decide +kernel
theorem dX1_firstPlaces_67 : decode cX1_firstPlaces 67 = .ok (.aload_n 0, 1) := by decide +kernel
theorem dX1_firstPlaces_68 : decode cX1_firstPlaces 68 = .ok (.getfield 39, 3) := by decide +kernel
theorem dX1_firstPlaces_71 : decode cX1_firstPlaces 71 = .ok (.iload_n 1, 1) := by decide +kernel
theorem dX1_firstPlaces_72 : decode cX1_firstPlaces 72 = .ok (.iload 4, 2) := by decide +kernel
theorem dX1_firstPlaces_74 : decode cX1_firstPlaces 74 = .ok (.iload 5, 2) := by decide +kernel
theorem dX1_firstPlaces_76 : decode cX1_firstPlaces 76 = .ok (.invokestatic 65, 3) := by decide +kernel
theorem dX1_firstPlaces_79 : decode cX1_firstPlaces 79 = .ok (.iaload, 1) := by decide +kernel
theorem dX1_firstPlaces_80 : decode cX1_firstPlaces 80 = .ok (.iadd, 1) := by decide +kernel
theorem dX1_firstPlaces_81 : decode cX1_firstPlaces 81 = .ok (.iload_n 3, 1) := by decide +kernel
theorem dX1_firstPlaces_82 : decode cX1_firstPlaces 82 = .ok (.if_icmp .ne 12, 3) := by decide +kernel
theorem dX1_firstPlaces_85 : decode cX1_firstPlaces 85 = .ok (.iload 4, 2) := by decide +kernel
theorem dX1_firstPlaces_87 : decode cX1_firstPlaces 87 = .ok (.bipush 16, 2) := by decide +kernel
theorem dX1_firstPlaces_89 : decode cX1_firstPlaces 89 = .ok (.imul, 1) := by decide +kernel
theorem dX1_firstPlaces_90 : decode cX1_firstPlaces 90 = .ok (.iload 5, 2) := by decide +kernel
theorem dX1_firstPlaces_92 : decode cX1_firstPlaces 92 = .ok (.iadd, 1) := by decide +kernel
theorem dX1_firstPlaces_93 : decode cX1_firstPlaces 93 = .ok (.ireturn, 1) := by decide +kernel
theorem dX1_firstPlaces_94 : decode cX1_firstPlaces 94 = .ok (.iinc 5 1, 3) := by decide +kernel
theorem dX1_firstPlaces_97 : decode cX1_firstPlaces 97 = .ok (.goto (-82), 3) := by decide +kernel
theorem dX1_firstPlaces_100 : decode cX1_firstPlaces 100 = .ok (.iinc 4 1, 3) := by decide +kernel
theorem dX1_firstPlaces_103 : decode cX1_firstPlaces 103 = .ok (.goto (-100), 3) := by decide +kernel
theorem dX1_firstPlaces_106 : decode cX1_firstPlaces 106 = .ok (.iconst (-1), 1) := by decide +kernel
theorem dX1_firstPlaces_107 : decode cX1_firstPlaces 107 = .ok (.ireturn, 1) := by decide +kernel
theorem dX2_init_0 : decode cX2_init 0 = .ok (.aload_n 0, 1) := by decide +kernel
theorem dX2_init_1 : decode cX2_init 1 = .ok (.invokespecial 3, 3) := by decide +kernel
theorem dX2_init_4 : decode cX2_init 4 = .ok (.aload_n 0, 1) := by decide +kernel
theorem dX2_init_5 : decode cX2_init 5 = .ok (.iconst 0, 1) := by decide +kernel
theorem dX2_init_6 : decode cX2_init 6 = .ok (.putfield 9, 3) := by decide +kernel
theorem dX2_init_9 : decode cX2_init 9 = .ok (.aload_n 0, 1) := by decide +kernel
theorem dX2_init_10 : decode cX2_init 10 = .ok (.bipush 16, 2) := by decide +kernel
theorem dX2_init_12 : decode cX2_init 12 = .ok (.newarray .int, 2) := by decide +kernel
theorem dX2_init_14 : decode cX2_init 14 = .ok (.putfield 15, 3) := by decide +kernel
theorem dX2_init_17 : decode cX2_init 17 = .ok (.aload_n 0, 1) := by decide +kernel
theorem dX2_init_18 : decode cX2_init 18 = .ok (.bipush 17, 2) := by decide +kernel
theorem dX2_init_20 : decode cX2_init 20 = .ok (.newarray .int, 2) := by decide +kernel
theorem dX2_init_22 : decode cX2_init 22 = .ok (.putfield 19, 3) := by decide +kernel
theorem dX2_init_25 : decode cX2_init 25 = .ok (.aload_n 0, 1) := by decide +kernel
theorem dX2_init_26 : decode cX2_init 26 = .ok (.bipush 17, 2) := by decide +kernel
theorem dX2_init_28 : decode cX2_init 28 = .ok (.newarray .int, 2) := by decide +kernel
theorem dX2_init_30 : decode cX2_init 30 = .ok (.putfield 22, 3) := by decide +kernel
theorem dX2_init_33 : decode cX2_init 33 = .ok (.aload_n 0, 1) := by decide +kernel
theorem dX2_init_34 : decode cX2_init 34 = .ok (.bipush 17, 2) := by decide +kernel
theorem dX2_init_36 : decode cX2_init 36 = .ok (.newarray .int, 2) := by decide +kernel
theorem dX2_init_38 : decode cX2_init 38 = .ok (.putfield 25, 3) := by decide +kernel
theorem dX2_init_41 : decode cX2_init 41 = .ok (.aload_n 0, 1) := by decide +kernel
theorem dX2_init_42 : decode cX2_init 42 = .ok (.bipush 16, 2) := by decide +kernel
theorem dX2_init_44 : decode cX2_init 44 = .ok (.newarray .int, 2) := by decide +kernel
theorem dX2_init_46 : decode cX2_init 46 = .ok (.putfield 28, 3) := by decide +kernel
theorem dX2_init_49 : decode cX2_init 49 = .ok (.return_, 1) := by decide +kernel
theorem dX2_lay_0 : decode cX2_lay 0 = .ok (.aload_n 0, 1) := by decide +kernel
theorem dX2_lay_1 : decode cX2_lay 1 = .ok (.iload_n 1, 1) := by decide +kernel
theorem dX2_lay_2 : decode cX2_lay 2 = .ok (.putfield 9, 3) := by decide +kernel
theorem dX2_lay_5 : decode cX2_lay 5 = .ok (.iconst 0, 1) := by decide +kernel
theorem dX2_lay_6 : decode cX2_lay 6 = .ok (.istore 4, 2) := by decide +kernel
theorem dX2_lay_8 : decode cX2_lay 8 = .ok (.iload 4, 2) := by decide +kernel
theorem dX2_lay_10 : decode cX2_lay 10 = .ok (.iload_n 1, 1) := by decide +kernel
theorem dX2_lay_11 : decode cX2_lay 11 = .ok (.if_icmp .ge 107, 3) := by decide +kernel
theorem dX2_lay_14 : decode cX2_lay 14 = .ok (.iload_n 3, 1) := by decide +kernel
theorem dX2_lay_15 : decode cX2_lay 15 = .ok (.iload 4, 2) := by decide +kernel
theorem dX2_lay_17 : decode cX2_lay 17 = .ok (.ishr, 1) := by decide +kernel
theorem dX2_lay_18 : decode cX2_lay 18 = .ok (.iconst 1, 1) := by decide +kernel
theorem dX2_lay_19 : decode cX2_lay 19 = .ok (.iand, 1) := by decide +kernel
theorem dX2_lay_20 : decode cX2_lay 20 = .ok (.ifCond .eq 10, 3) := by decide +kernel
theorem dX2_lay_23 : decode cX2_lay 23 = .ok (.aload_n 2, 1) := by decide +kernel
theorem dX2_lay_24 : decode cX2_lay 24 = .ok (.iload 4, 2) := by decide +kernel
theorem dX2_lay_26 : decode cX2_lay 26 = .ok (.iaload, 1) := by decide +kernel
theorem dX2_lay_27 : decode cX2_lay 27 = .ok (.goto 4, 3) := by decide +kernel
theorem dX2_lay_30 : decode cX2_lay 30 = .ok (.iconst 0, 1) := by decide +kernel
theorem dX2_lay_31 : decode cX2_lay 31 = .ok (.istore 5, 2) := by decide +kernel
theorem dX2_lay_33 : decode cX2_lay 33 = .ok (.aload_n 0, 1) := by decide +kernel
theorem dX2_lay_34 : decode cX2_lay 34 = .ok (.getfield 15, 3) := by decide +kernel
theorem dX2_lay_37 : decode cX2_lay 37 = .ok (.iload 4, 2) := by decide +kernel
theorem dX2_lay_39 : decode cX2_lay 39 = .ok (.iload 5, 2) := by decide +kernel
theorem dX2_lay_41 : decode cX2_lay 41 = .ok (.iastore, 1) := by decide +kernel
theorem dX2_lay_42 : decode cX2_lay 42 = .ok (.aload_n 0, 1) := by decide +kernel
theorem dX2_lay_43 : decode cX2_lay 43 = .ok (.getfield 22, 3) := by decide +kernel
theorem dX2_lay_46 : decode cX2_lay 46 = .ok (.iload 4, 2) := by decide +kernel
theorem dX2_lay_48 : decode cX2_lay 48 = .ok (.iconst 1, 1) := by decide +kernel
theorem dX2_lay_49 : decode cX2_lay 49 = .ok (.iadd, 1) := by decide +kernel
theorem dX2_lay_50 : decode cX2_lay 50 = .ok (.aload_n 0, 1) := by decide +kernel
theorem dX2_lay_51 : decode cX2_lay 51 = .ok (.getfield 22, 3) := by decide +kernel
theorem dX2_lay_54 : decode cX2_lay 54 = .ok (.iload 4, 2) := by decide +kernel
theorem dX2_lay_56 : decode cX2_lay 56 = .ok (.iaload, 1) := by decide +kernel
theorem dX2_lay_57 : decode cX2_lay 57 = .ok (.aload_n 0, 1) := by decide +kernel
theorem dX2_lay_58 : decode cX2_lay 58 = .ok (.getfield 19, 3) := by decide +kernel
theorem dX2_lay_61 : decode cX2_lay 61 = .ok (.iload 4, 2) := by decide +kernel
theorem dX2_lay_63 : decode cX2_lay 63 = .ok (.iaload, 1) := by decide +kernel
theorem dX2_lay_64 : decode cX2_lay 64 = .ok (.iload 5, 2) := by decide +kernel
theorem dX2_lay_66 : decode cX2_lay 66 = .ok (.iand, 1) := by decide +kernel
theorem dX2_lay_67 : decode cX2_lay 67 = .ok (.ior, 1) := by decide +kernel
theorem dX2_lay_68 : decode cX2_lay 68 = .ok (.iastore, 1) := by decide +kernel
theorem dX2_lay_69 : decode cX2_lay 69 = .ok (.aload_n 0, 1) := by decide +kernel
theorem dX2_lay_70 : decode cX2_lay 70 = .ok (.getfield 19, 3) := by decide +kernel
theorem dX2_lay_73 : decode cX2_lay 73 = .ok (.iload 4, 2) := by decide +kernel
theorem dX2_lay_75 : decode cX2_lay 75 = .ok (.iconst 1, 1) := by decide +kernel
theorem dX2_lay_76 : decode cX2_lay 76 = .ok (.iadd, 1) := by decide +kernel
theorem dX2_lay_77 : decode cX2_lay 77 = .ok (.aload_n 0, 1) := by decide +kernel
theorem dX2_lay_78 : decode cX2_lay 78 = .ok (.getfield 19, 3) := by decide +kernel
theorem dX2_lay_81 : decode cX2_lay 81 = .ok (.iload 4, 2) := by decide +kernel
theorem dX2_lay_83 : decode cX2_lay 83 = .ok (.iaload, 1) := by decide +kernel
theorem dX2_lay_84 : decode cX2_lay 84 = .ok (.iload 5, 2) := by decide +kernel
theorem dX2_lay_86 : decode cX2_lay 86 = .ok (.ior, 1) := by decide +kernel
theorem dX2_lay_87 : decode cX2_lay 87 = .ok (.iastore, 1) := by decide +kernel
theorem dX2_lay_88 : decode cX2_lay 88 = .ok (.aload_n 0, 1) := by decide +kernel
theorem dX2_lay_89 : decode cX2_lay 89 = .ok (.getfield 25, 3) := by decide +kernel
theorem dX2_lay_92 : decode cX2_lay 92 = .ok (.iload 4, 2) := by decide +kernel
theorem dX2_lay_94 : decode cX2_lay 94 = .ok (.iconst 1, 1) := by decide +kernel
theorem dX2_lay_95 : decode cX2_lay 95 = .ok (.iadd, 1) := by decide +kernel
theorem dX2_lay_96 : decode cX2_lay 96 = .ok (.aload_n 0, 1) := by decide +kernel
theorem dX2_lay_97 : decode cX2_lay 97 = .ok (.getfield 25, 3) := by decide +kernel
theorem dX2_lay_100 : decode cX2_lay 100 = .ok (.iload 4, 2) := by decide +kernel
theorem dX2_lay_102 : decode cX2_lay 102 = .ok (.iaload, 1) := by decide +kernel
theorem dX2_lay_103 : decode cX2_lay 103 = .ok (.iload 5, 2) := by decide +kernel
theorem dX2_lay_105 : decode cX2_lay 105 = .ok (.invokestatic 31, 3) := by decide +kernel
theorem dX2_lay_108 : decode cX2_lay 108 = .ok (.invokestatic 37, 3) := by decide +kernel
theorem dX2_lay_111 : decode cX2_lay 111 = .ok (.iastore, 1) := by decide +kernel
theorem dX2_lay_112 : decode cX2_lay 112 = .ok (.iinc 4 1, 3) := by decide +kernel
theorem dX2_lay_115 : decode cX2_lay 115 = .ok (.goto (-107), 3) := by decide +kernel
theorem dX2_lay_118 : decode cX2_lay 118 = .ok (.return_, 1) := by decide +kernel
theorem dX2_fewest_0 : decode cX2_fewest 0 = .ok (.iload_n 1, 1) := by decide +kernel
theorem dX2_fewest_1 : decode cX2_fewest 1 = .ok (.iload_n 2, 1) := by decide +kernel
theorem dX2_fewest_2 : decode cX2_fewest 2 = .ok (.ior, 1) := by decide +kernel
theorem dX2_fewest_3 : decode cX2_fewest 3 = .ok (.aload_n 0, 1) := by decide +kernel
theorem dX2_fewest_4 : decode cX2_fewest 4 = .ok (.getfield 19, 3) := by decide +kernel
theorem dX2_fewest_7 : decode cX2_fewest 7 = .ok (.aload_n 0, 1) := by decide +kernel
theorem dX2_fewest_8 : decode cX2_fewest 8 = .ok (.getfield 9, 3) := by decide +kernel
theorem dX2_fewest_11 : decode cX2_fewest 11 = .ok (.iaload, 1) := by decide +kernel
theorem dX2_fewest_12 : decode cX2_fewest 12 = .ok (.iconst (-1), 1) := by decide +kernel
theorem dX2_fewest_13 : decode cX2_fewest 13 = .ok (.ixor, 1) := by decide +kernel
theorem dX2_fewest_14 : decode cX2_fewest 14 = .ok (.iand, 1) := by decide +kernel
theorem dX2_fewest_15 : decode cX2_fewest 15 = .ok (.ifCond .ne 19, 3) := by decide +kernel
theorem dX2_fewest_18 : decode cX2_fewest 18 = .ok (.iload_n 2, 1) := by decide +kernel
theorem dX2_fewest_19 : decode cX2_fewest 19 = .ok (.aload_n 0, 1) := by decide +kernel
theorem dX2_fewest_20 : decode cX2_fewest 20 = .ok (.getfield 22, 3) := by decide +kernel
theorem dX2_fewest_23 : decode cX2_fewest 23 = .ok (.aload_n 0, 1) := by decide +kernel
theorem dX2_fewest_24 : decode cX2_fewest 24 = .ok (.getfield 9, 3) := by decide +kernel
theorem dX2_fewest_27 : decode cX2_fewest 27 = .ok (.iaload, 1) := by decide +kernel
theorem dX2_fewest_28 : decode cX2_fewest 28 = .ok (.iconst (-1), 1) := by decide +kernel
theorem dX2_fewest_29 : decode cX2_fewest 29 = .ok (.ixor, 1) := by decide +kernel
theorem dX2_fewest_30 : decode cX2_fewest 30 = .ok (.iand, 1) := by decide +kernel
theorem dX2_fewest_31 : decode cX2_fewest 31 = .ok (.ifCond .eq 5, 3) := by decide +kernel
theorem dX2_fewest_34 : decode cX2_fewest 34 = .ok (.iconst (-1), 1) := by decide +kernel
theorem dX2_fewest_35 : decode cX2_fewest 35 = .ok (.ireturn, 1) := by decide +kernel
theorem dX2_fewest_36 : decode cX2_fewest 36 = .ok (.iconst 0, 1) := by decide +kernel
theorem dX2_fewest_37 : decode cX2_fewest 37 = .ok (.istore_n 3, 1) := by decide +kernel
theorem dX2_fewest_38 : decode cX2_fewest 38 = .ok (.iload_n 3, 1) := by decide +kernel
theorem dX2_fewest_39 : decode cX2_fewest 39 = .ok (.aload_n 0, 1) := by decide +kernel
theorem dX2_fewest_40 : decode cX2_fewest 40 = .ok (.getfield 9, 3) := by decide +kernel
theorem dX2_fewest_43 : decode cX2_fewest 43 = .ok (.if_icmp .gt 31, 3) := by decide +kernel
theorem dX2_fewest_46 : decode cX2_fewest 46 = .ok (.aload_n 0, 1) := by decide +kernel
theorem dX2_fewest_47 : decode cX2_fewest 47 = .ok (.aload_n 0, 1) := by decide +kernel
theorem dX2_fewest_48 : decode cX2_fewest 48 = .ok (.getfield 9, 3) := by decide +kernel
theorem dX2_fewest_51 : decode cX2_fewest 51 = .ok (.iload_n 1, 1) := by decide +kernel
theorem dX2_fewest_52 : decode cX2_fewest 52 = .ok (.iload_n 2, 1) := by decide +kernel
theorem dX2_fewest_53 : decode cX2_fewest 53 = .ok (.iload_n 3, 1) := by decide +kernel
theorem dX2_fewest_54 : decode cX2_fewest 54 = .ok (.invokestatic 43, 3) := by decide +kernel
theorem dX2_fewest_57 : decode cX2_fewest 57 = .ok (.istore 4, 2) := by decide +kernel
theorem dX2_fewest_59 : decode cX2_fewest 59 = .ok (.iload 4, 2) := by decide +kernel
theorem dX2_fewest_61 : decode cX2_fewest 61 = .ok (.iconst (-1), 1) := by decide +kernel
theorem dX2_fewest_62 : decode cX2_fewest 62 = .ok (.if_icmp .eq 6, 3) := by decide +kernel
theorem dX2_fewest_65 : decode cX2_fewest 65 = .ok (.iload 4, 2) := by decide +kernel
theorem dX2_fewest_67 : decode cX2_fewest 67 = .ok (.ireturn, 1) := by decide +kernel
theorem dX2_fewest_68 : decode cX2_fewest 68 = .ok (.iinc 3 1, 3) := by decide +kernel
theorem dX2_fewest_71 : decode cX2_fewest 71 = .ok (.goto (-33), 3) := by decide +kernel
theorem dX2_fewest_74 : decode cX2_fewest 74 = .ok (.iconst (-1), 1) := by decide +kernel
theorem dX2_fewest_75 : decode cX2_fewest 75 = .ok (.ireturn, 1) := by decide +kernel
theorem dX2_suffice_0 : decode cX2_suffice 0 = .ok (.aload_n 0, 1) := by decide +kernel
theorem dX2_suffice_1 : decode cX2_suffice 1 = .ok (.aload_n 0, 1) := by decide +kernel
theorem dX2_suffice_2 : decode cX2_suffice 2 = .ok (.getfield 9, 3) := by decide +kernel
theorem dX2_suffice_5 : decode cX2_suffice 5 = .ok (.iload_n 1, 1) := by decide +kernel
theorem dX2_suffice_6 : decode cX2_suffice 6 = .ok (.iconst 0, 1) := by decide +kernel
theorem dX2_suffice_7 : decode cX2_suffice 7 = .ok (.iload_n 2, 1) := by decide +kernel
theorem dX2_suffice_8 : decode cX2_suffice 8 = .ok (.invokestatic 43, 3) := by decide +kernel
theorem dX2_suffice_11 : decode cX2_suffice 11 = .ok (.iconst (-1), 1) := by decide +kernel
theorem dX2_suffice_12 : decode cX2_suffice 12 = .ok (.if_icmp .eq 7, 3) := by decide +kernel
theorem dX2_suffice_15 : decode cX2_suffice 15 = .ok (.iconst 1, 1) := by decide +kernel
theorem dX2_suffice_16 : decode cX2_suffice 16 = .ok (.goto 4, 3) := by decide +kernel
theorem dX2_suffice_19 : decode cX2_suffice 19 = .ok (.iconst 0, 1) := by decide +kernel
theorem dX2_suffice_20 : decode cX2_suffice 20 = .ok (.ireturn, 1) := by decide +kernel
theorem dX2_seek_0 : decode cX2_seek 0 = .ok (.iload_n 2, 1) := by decide +kernel
theorem dX2_seek_1 : decode cX2_seek 1 = .ok (.iload_n 3, 1) := by decide +kernel
theorem dX2_seek_2 : decode cX2_seek 2 = .ok (.ior, 1) := by decide +kernel
theorem dX2_seek_3 : decode cX2_seek 3 = .ok (.ifCond .ne 5, 3) := by decide +kernel
theorem dX2_seek_6 : decode cX2_seek 6 = .ok (.iconst 0, 1) := by decide +kernel
theorem dX2_seek_7 : decode cX2_seek 7 = .ok (.ireturn, 1) := by decide +kernel
theorem dX2_seek_8 : decode cX2_seek 8 = .ok (.iload_n 1, 1) := by decide +kernel
theorem dX2_seek_9 : decode cX2_seek 9 = .ok (.ifCond .le 54, 3) := by decide +kernel
theorem dX2_seek_12 : decode cX2_seek 12 = .ok (.iload_n 2, 1) := by decide +kernel
theorem dX2_seek_13 : decode cX2_seek 13 = .ok (.iload_n 3, 1) := by decide +kernel
theorem dX2_seek_14 : decode cX2_seek 14 = .ok (.ior, 1) := by decide +kernel
theorem dX2_seek_15 : decode cX2_seek 15 = .ok (.aload_n 0, 1) := by decide +kernel
theorem dX2_seek_16 : decode cX2_seek 16 = .ok (.getfield 19, 3) := by decide +kernel
theorem dX2_seek_19 : decode cX2_seek 19 = .ok (.iload_n 1, 1) := by decide +kernel
theorem dX2_seek_20 : decode cX2_seek 20 = .ok (.iaload, 1) := by decide +kernel
theorem dX2_seek_21 : decode cX2_seek 21 = .ok (.iconst (-1), 1) := by decide +kernel
theorem dX2_seek_22 : decode cX2_seek 22 = .ok (.ixor, 1) := by decide +kernel
theorem dX2_seek_23 : decode cX2_seek 23 = .ok (.iand, 1) := by decide +kernel
theorem dX2_seek_24 : decode cX2_seek 24 = .ok (.ifCond .ne 39, 3) := by decide +kernel
theorem dX2_seek_27 : decode cX2_seek 27 = .ok (.iload_n 3, 1) := by decide +kernel
theorem dX2_seek_28 : decode cX2_seek 28 = .ok (.aload_n 0, 1) := by decide +kernel
theorem dX2_seek_29 : decode cX2_seek 29 = .ok (.getfield 22, 3) := by decide +kernel
theorem dX2_seek_32 : decode cX2_seek 32 = .ok (.iload_n 1, 1) := by decide +kernel
theorem dX2_seek_33 : decode cX2_seek 33 = .ok (.iaload, 1) := by decide +kernel
theorem dX2_seek_34 : decode cX2_seek 34 = .ok (.iconst (-1), 1) := by decide +kernel
theorem dX2_seek_35 : decode cX2_seek 35 = .ok (.ixor, 1) := by decide +kernel
theorem dX2_seek_36 : decode cX2_seek 36 = .ok (.iand, 1) := by decide +kernel
theorem dX2_seek_37 : decode cX2_seek 37 = .ok (.ifCond .ne 26, 3) := by decide +kernel
theorem dX2_seek_40 : decode cX2_seek 40 = .ok (.iload_n 2, 1) := by decide +kernel
theorem dX2_seek_41 : decode cX2_seek 41 = .ok (.invokestatic 31, 3) := by decide +kernel
theorem dX2_seek_44 : decode cX2_seek 44 = .ok (.iconst 2, 1) := by decide +kernel
theorem dX2_seek_45 : decode cX2_seek 45 = .ok (.iload_n 3, 1) := by decide +kernel
theorem dX2_seek_46 : decode cX2_seek 46 = .ok (.invokestatic 31, 3) := by decide +kernel
theorem dX2_seek_49 : decode cX2_seek 49 = .ok (.imul, 1) := by decide +kernel
theorem dX2_seek_50 : decode cX2_seek 50 = .ok (.iadd, 1) := by decide +kernel
theorem dX2_seek_51 : decode cX2_seek 51 = .ok (.iload 4, 2) := by decide +kernel
theorem dX2_seek_53 : decode cX2_seek 53 = .ok (.aload_n 0, 1) := by decide +kernel
theorem dX2_seek_54 : decode cX2_seek 54 = .ok (.getfield 25, 3) := by decide +kernel
theorem dX2_seek_57 : decode cX2_seek 57 = .ok (.iload_n 1, 1) := by decide +kernel
theorem dX2_seek_58 : decode cX2_seek 58 = .ok (.iaload, 1) := by decide +kernel
theorem dX2_seek_59 : decode cX2_seek 59 = .ok (.imul, 1) := by decide +kernel
theorem dX2_seek_60 : decode cX2_seek 60 = .ok (.if_icmp .le 5, 3) := by decide +kernel
theorem dX2_seek_63 : decode cX2_seek 63 = .ok (.iconst (-1), 1) := by decide +kernel
theorem dX2_seek_64 : decode cX2_seek 64 = .ok (.ireturn, 1) := by decide +kernel
theorem dX2_seek_65 : decode cX2_seek 65 = .ok (.aload_n 0, 1) := by decide +kernel
theorem dX2_seek_66 : decode cX2_seek 66 = .ok (.iload_n 1, 1) := by decide +kernel
theorem dX2_seek_67 : decode cX2_seek 67 = .ok (.iconst 1, 1) := by decide +kernel
theorem dX2_seek_68 : decode cX2_seek 68 = .ok (.isub, 1) := by decide +kernel
theorem dX2_seek_69 : decode cX2_seek 69 = .ok (.iload_n 2, 1) := by decide +kernel
theorem dX2_seek_70 : decode cX2_seek 70 = .ok (.iload_n 3, 1) := by decide +kernel
theorem dX2_seek_71 : decode cX2_seek 71 = .ok (.iload 4, 2) := by decide +kernel
theorem dX2_seek_73 : decode cX2_seek 73 = .ok (.invokestatic 43, 3) := by decide +kernel
theorem dX2_seek_76 : decode cX2_seek 76 = .ok (.istore 5, 2) := by decide +kernel
theorem dX2_seek_78 : decode cX2_seek 78 = .ok (.aload_n 0, 1) := by decide +kernel
theorem dX2_seek_79 : decode cX2_seek 79 = .ok (.getfield 15, 3) := by decide +kernel
theorem dX2_seek_82 : decode cX2_seek 82 = .ok (.iload_n 1, 1) := by decide +kernel
theorem dX2_seek_83 : decode cX2_seek 83 = .ok (.iconst 1, 1) := by decide +kernel
theorem dX2_seek_84 : decode cX2_seek 84 = .ok (.isub, 1) := by decide +kernel
theorem dX2_seek_85 : decode cX2_seek 85 = .ok (.iaload, 1) := by decide +kernel
theorem dX2_seek_86 : decode cX2_seek 86 = .ok (.istore 6, 2) := by decide +kernel
theorem dX2_seek_88 : decode cX2_seek 88 = .ok (.iload 5, 2) := by decide +kernel
theorem dX2_seek_90 : decode cX2_seek 90 = .ok (.iconst (-1), 1) := by decide +kernel
theorem dX2_seek_91 : decode cX2_seek 91 = .ok (.if_icmp .ne 12, 3) := by decide +kernel
theorem dX2_seek_94 : decode cX2_seek 94 = .ok (.iload 6, 2) := by decide +kernel
theorem dX2_seek_96 : decode cX2_seek 96 = .ok (.iload_n 2, 1) := by decide +kernel
theorem dX2_seek_97 : decode cX2_seek 97 = .ok (.iload_n 3, 1) := by decide +kernel
theorem dX2_seek_98 : decode cX2_seek 98 = .ok (.ior, 1) := by decide +kernel
theorem dX2_seek_99 : decode cX2_seek 99 = .ok (.iand, 1) := by decide +kernel
theorem dX2_seek_100 : decode cX2_seek 100 = .ok (.ifCond .ne 6, 3) := by decide +kernel
theorem dX2_seek_103 : decode cX2_seek 103 = .ok (.iload 5, 2) := by decide +kernel
theorem dX2_seek_105 : decode cX2_seek 105 = .ok (.ireturn, 1) := by decide +kernel
theorem dX2_seek_106 : decode cX2_seek 106 = .ok (.aload_n 0, 1) := by decide +kernel
theorem dX2_seek_107 : decode cX2_seek 107 = .ok (.iload_n 1, 1) := by decide +kernel
theorem dX2_seek_108 : decode cX2_seek 108 = .ok (.iconst 1, 1) := by decide +kernel
theorem dX2_seek_109 : decode cX2_seek 109 = .ok (.isub, 1) := by decide +kernel
theorem dX2_seek_110 : decode cX2_seek 110 = .ok (.iload_n 2, 1) := by decide +kernel
theorem dX2_seek_111 : decode cX2_seek 111 = .ok (.iload 6, 2) := by decide +kernel
theorem dX2_seek_113 : decode cX2_seek 113 = .ok (.iconst (-1), 1) := by decide +kernel
theorem dX2_seek_114 : decode cX2_seek 114 = .ok (.ixor, 1) := by decide +kernel
theorem dX2_seek_115 : decode cX2_seek 115 = .ok (.iand, 1) := by decide +kernel
theorem dX2_seek_116 : decode cX2_seek 116 = .ok (.iload_n 3, 1) := by decide +kernel
theorem dX2_seek_117 : decode cX2_seek 117 = .ok (.iload 6, 2) := by decide +kernel
theorem dX2_seek_119 : decode cX2_seek 119 = .ok (.iand, 1) := by decide +kernel
theorem dX2_seek_120 : decode cX2_seek 120 = .ok (.ior, 1) := by decide +kernel
theorem dX2_seek_121 : decode cX2_seek 121 = .ok (.iload_n 3, 1) := by decide +kernel
theorem dX2_seek_122 : decode cX2_seek 122 = .ok (.iload 6, 2) := by decide +kernel
theorem dX2_seek_124 : decode cX2_seek 124 = .ok (.iconst (-1), 1) := by decide +kernel
theorem dX2_seek_125 : decode cX2_seek 125 = .ok (.ixor, 1) := by decide +kernel
theorem dX2_seek_126 : decode cX2_seek 126 = .ok (.iand, 1) := by decide +kernel
theorem dX2_seek_127 : decode cX2_seek 127 = .ok (.iload 4, 2) := by decide +kernel
theorem dX2_seek_129 : decode cX2_seek 129 = .ok (.iconst 1, 1) := by decide +kernel
theorem dX2_seek_130 : decode cX2_seek 130 = .ok (.isub, 1) := by decide +kernel
theorem dX2_seek_131 : decode cX2_seek 131 = .ok (.invokestatic 43, 3) := by decide +kernel
theorem dX2_seek_134 : decode cX2_seek 134 = .ok (.istore 5, 2) := by decide +kernel
theorem dX2_seek_136 : decode cX2_seek 136 = .ok (.iload 5, 2) := by decide +kernel
theorem dX2_seek_138 : decode cX2_seek 138 = .ok (.iconst (-1), 1) := by decide +kernel
theorem dX2_seek_139 : decode cX2_seek 139 = .ok (.if_icmp .ne 7, 3) := by decide +kernel
theorem dX2_seek_142 : decode cX2_seek 142 = .ok (.iconst (-1), 1) := by decide +kernel
theorem dX2_seek_143 : decode cX2_seek 143 = .ok (.goto 11, 3) := by decide +kernel
theorem dX2_seek_146 : decode cX2_seek 146 = .ok (.iload 5, 2) := by decide +kernel
theorem dX2_seek_148 : decode cX2_seek 148 = .ok (.iconst 1, 1) := by decide +kernel
theorem dX2_seek_149 : decode cX2_seek 149 = .ok (.iload_n 1, 1) := by decide +kernel
theorem dX2_seek_150 : decode cX2_seek 150 = .ok (.iconst 1, 1) := by decide +kernel
theorem dX2_seek_151 : decode cX2_seek 151 = .ok (.isub, 1) := by decide +kernel
theorem dX2_seek_152 : decode cX2_seek 152 = .ok (.ishl, 1) := by decide +kernel
theorem dX2_seek_153 : decode cX2_seek 153 = .ok (.ior, 1) := by decide +kernel
theorem dX2_seek_154 : decode cX2_seek 154 = .ok (.ireturn, 1) := by decide +kernel
theorem dX2_lone_0 : decode cX2_lone 0 = .ok (.iconst 0, 1) := by decide +kernel
theorem dX2_lone_1 : decode cX2_lone 1 = .ok (.istore_n 3, 1) := by decide +kernel
theorem dX2_lone_2 : decode cX2_lone 2 = .ok (.iload_n 3, 1) := by decide +kernel
theorem dX2_lone_3 : decode cX2_lone 3 = .ok (.iload_n 1, 1) := by decide +kernel
theorem dX2_lone_4 : decode cX2_lone 4 = .ok (.if_icmp .ge 61, 3) := by decide +kernel
theorem dX2_lone_7 : decode cX2_lone 7 = .ok (.aload_n 0, 1) := by decide +kernel
theorem dX2_lone_8 : decode cX2_lone 8 = .ok (.getfield 28, 3) := by decide +kernel
theorem dX2_lone_11 : decode cX2_lone 11 = .ok (.iload_n 3, 1) := by decide +kernel
theorem dX2_lone_12 : decode cX2_lone 12 = .ok (.iconst 0, 1) := by decide +kernel
theorem dX2_lone_13 : decode cX2_lone 13 = .ok (.iastore, 1) := by decide +kernel
theorem dX2_lone_14 : decode cX2_lone 14 = .ok (.iconst 0, 1) := by decide +kernel
theorem dX2_lone_15 : decode cX2_lone 15 = .ok (.istore 4, 2) := by decide +kernel
theorem dX2_lone_17 : decode cX2_lone 17 = .ok (.iload 4, 2) := by decide +kernel
theorem dX2_lone_19 : decode cX2_lone 19 = .ok (.iload_n 1, 1) := by decide +kernel
theorem dX2_lone_20 : decode cX2_lone 20 = .ok (.if_icmp .ge 39, 3) := by decide +kernel
theorem dX2_lone_23 : decode cX2_lone 23 = .ok (.iload 4, 2) := by decide +kernel
theorem dX2_lone_25 : decode cX2_lone 25 = .ok (.iload_n 3, 1) := by decide +kernel
theorem dX2_lone_26 : decode cX2_lone 26 = .ok (.if_icmp .eq 27, 3) := by decide +kernel
theorem dX2_lone_29 : decode cX2_lone 29 = .ok (.aload_n 2, 1) := by decide +kernel
theorem dX2_lone_30 : decode cX2_lone 30 = .ok (.iload_n 3, 1) := by decide +kernel
theorem dX2_lone_31 : decode cX2_lone 31 = .ok (.iaload, 1) := by decide +kernel
theorem dX2_lone_32 : decode cX2_lone 32 = .ok (.aload_n 2, 1) := by decide +kernel
theorem dX2_lone_33 : decode cX2_lone 33 = .ok (.iload 4, 2) := by decide +kernel
theorem dX2_lone_35 : decode cX2_lone 35 = .ok (.iaload, 1) := by decide +kernel
theorem dX2_lone_36 : decode cX2_lone 36 = .ok (.iand, 1) := by decide +kernel
theorem dX2_lone_37 : decode cX2_lone 37 = .ok (.ifCond .eq 16, 3) := by decide +kernel
theorem dX2_lone_40 : decode cX2_lone 40 = .ok (.aload_n 0, 1) := by decide +kernel
theorem dX2_lone_41 : decode cX2_lone 41 = .ok (.getfield 28, 3) := by decide +kernel
theorem dX2_lone_44 : decode cX2_lone 44 = .ok (.iload_n 3, 1) := by decide +kernel
theorem dX2_lone_45 : decode cX2_lone 45 = .ok (.dup2, 1) := by decide +kernel
theorem dX2_lone_46 : decode cX2_lone 46 = .ok (.iaload, 1) := by decide +kernel
theorem dX2_lone_47 : decode cX2_lone 47 = .ok (.iconst 1, 1) := by decide +kernel
theorem dX2_lone_48 : decode cX2_lone 48 = .ok (.iload 4, 2) := by decide +kernel
theorem dX2_lone_50 : decode cX2_lone 50 = .ok (.ishl, 1) := by decide +kernel
theorem dX2_lone_51 : decode cX2_lone 51 = .ok (.ior, 1) := by decide +kernel
theorem dX2_lone_52 : decode cX2_lone 52 = .ok (.iastore, 1) := by decide +kernel
theorem dX2_lone_53 : decode cX2_lone 53 = .ok (.iinc 4 1, 3) := by decide +kernel
theorem dX2_lone_56 : decode cX2_lone 56 = .ok (.goto (-39), 3) := by decide +kernel
theorem dX2_lone_59 : decode cX2_lone 59 = .ok (.iinc 3 1, 3) := by decide +kernel
theorem dX2_lone_62 : decode cX2_lone 62 = .ok (.goto (-60), 3) := by decide +kernel
theorem dX2_lone_65 : decode cX2_lone 65 = .ok (.iconst 0, 1) := by decide +kernel
theorem dX2_lone_66 : decode cX2_lone 66 = .ok (.istore_n 3, 1) := by decide +kernel
theorem dX2_lone_67 : decode cX2_lone 67 = .ok (.iconst 1, 1) := by decide +kernel
theorem dX2_lone_68 : decode cX2_lone 68 = .ok (.istore 4, 2) := by decide +kernel
theorem dX2_lone_70 : decode cX2_lone 70 = .ok (.iload 4, 2) := by decide +kernel
theorem dX2_lone_72 : decode cX2_lone 72 = .ok (.iload_n 1, 1) := by decide +kernel
theorem dX2_lone_73 : decode cX2_lone 73 = .ok (.if_icmp .gt 34, 3) := by decide +kernel
theorem dX2_lone_76 : decode cX2_lone 76 = .ok (.aload_n 0, 1) := by decide +kernel
theorem dX2_lone_77 : decode cX2_lone 77 = .ok (.iload_n 1, 1) := by decide +kernel
theorem dX2_lone_78 : decode cX2_lone 78 = .ok (.iconst 1, 1) := by decide +kernel
theorem dX2_lone_79 : decode cX2_lone 79 = .ok (.iload_n 1, 1) := by decide +kernel
theorem dX2_lone_80 : decode cX2_lone 80 = .ok (.ishl, 1) := by decide +kernel
theorem dX2_lone_81 : decode cX2_lone 81 = .ok (.iconst 1, 1) := by decide +kernel
theorem dX2_lone_82 : decode cX2_lone 82 = .ok (.isub, 1) := by decide +kernel
theorem dX2_lone_83 : decode cX2_lone 83 = .ok (.iload 4, 2) := by decide +kernel
theorem dX2_lone_85 : decode cX2_lone 85 = .ok (.invokestatic 47, 3) := by decide +kernel
theorem dX2_lone_88 : decode cX2_lone 88 = .ok (.istore 5, 2) := by decide +kernel
theorem dX2_lone_90 : decode cX2_lone 90 = .ok (.iload 5, 2) := by decide +kernel
theorem dX2_lone_92 : decode cX2_lone 92 = .ok (.iconst (-1), 1) := by decide +kernel
theorem dX2_lone_93 : decode cX2_lone 93 = .ok (.if_icmp .ne 5, 3) := by decide +kernel
theorem dX2_lone_96 : decode cX2_lone 96 = .ok (.iload_n 3, 1) := by decide +kernel
theorem dX2_lone_97 : decode cX2_lone 97 = .ok (.ireturn, 1) := by decide +kernel
theorem dX2_lone_98 : decode cX2_lone 98 = .ok (.iload 5, 2) := by decide +kernel
theorem dX2_lone_100 : decode cX2_lone 100 = .ok (.istore_n 3, 1) := by decide +kernel
theorem dX2_lone_101 : decode cX2_lone 101 = .ok (.iinc 4 1, 3) := by decide +kernel
theorem dX2_lone_104 : decode cX2_lone 104 = .ok (.goto (-34), 3) := by decide +kernel
theorem dX2_lone_107 : decode cX2_lone 107 = .ok (.iload_n 3, 1) := by decide +kernel
theorem dX2_lone_108 : decode cX2_lone 108 = .ok (.ireturn, 1) := by decide +kernel
theorem dX2_seekLone_0 : decode cX2_seekLone 0 = .ok (.iload_n 3, 1) := by decide +kernel
theorem dX2_seekLone_1 : decode cX2_seekLone 1 = .ok (.ifCond .ne 5, 3) := by decide +kernel
theorem dX2_seekLone_4 : decode cX2_seekLone 4 = .ok (.iconst 0, 1) := by decide +kernel
theorem dX2_seekLone_5 : decode cX2_seekLone 5 = .ok (.ireturn, 1) := by decide +kernel
theorem dX2_seekLone_6 : decode cX2_seekLone 6 = .ok (.iload_n 1, 1) := by decide +kernel
theorem dX2_seekLone_7 : decode cX2_seekLone 7 = .ok (.ifCond .le 17, 3) := by decide +kernel
theorem dX2_seekLone_10 : decode cX2_seekLone 10 = .ok (.iload_n 2, 1) := by decide +kernel
theorem dX2_seekLone_11 : decode cX2_seekLone 11 = .ok (.iconst 1, 1) := by decide +kernel
theorem dX2_seekLone_12 : decode cX2_seekLone 12 = .ok (.iload_n 1, 1) := by decide +kernel
theorem dX2_seekLone_13 : decode cX2_seekLone 13 = .ok (.ishl, 1) := by decide +kernel
theorem dX2_seekLone_14 : decode cX2_seekLone 14 = .ok (.iconst 1, 1) := by decide +kernel
theorem dX2_seekLone_15 : decode cX2_seekLone 15 = .ok (.isub, 1) := by decide +kernel
theorem dX2_seekLone_16 : decode cX2_seekLone 16 = .ok (.iand, 1) := by decide +kernel
theorem dX2_seekLone_17 : decode cX2_seekLone 17 = .ok (.invokestatic 31, 3) := by decide +kernel
theorem dX2_seekLone_20 : decode cX2_seekLone 20 = .ok (.iload_n 3, 1) := by decide +kernel
theorem dX2_seekLone_21 : decode cX2_seekLone 21 = .ok (.if_icmp .ge 5, 3) := by decide +kernel
theorem dX2_seekLone_24 : decode cX2_seekLone 24 = .ok (.iconst (-1), 1) := by decide +kernel
theorem dX2_seekLone_25 : decode cX2_seekLone 25 = .ok (.ireturn, 1) := by decide +kernel
theorem dX2_seekLone_26 : decode cX2_seekLone 26 = .ok (.aload_n 0, 1) := by decide +kernel
theorem dX2_seekLone_27 : decode cX2_seekLone 27 = .ok (.iload_n 1, 1) := by decide +kernel
theorem dX2_seekLone_28 : decode cX2_seekLone 28 = .ok (.iconst 1, 1) := by decide +kernel
theorem dX2_seekLone_29 : decode cX2_seekLone 29 = .ok (.isub, 1) := by decide +kernel
theorem dX2_seekLone_30 : decode cX2_seekLone 30 = .ok (.iload_n 2, 1) := by decide +kernel
theorem dX2_seekLone_31 : decode cX2_seekLone 31 = .ok (.iload_n 3, 1) := by decide +kernel
theorem dX2_seekLone_32 : decode cX2_seekLone 32 = .ok (.invokestatic 47, 3) := by decide +kernel
theorem dX2_seekLone_35 : decode cX2_seekLone 35 = .ok (.istore 4, 2) := by decide +kernel
theorem dX2_seekLone_37 : decode cX2_seekLone 37 = .ok (.iload 4, 2) := by decide +kernel
theorem dX2_seekLone_39 : decode cX2_seekLone 39 = .ok (.iconst (-1), 1) := by decide +kernel
theorem dX2_seekLone_40 : decode cX2_seekLone 40 = .ok (.if_icmp .ne 13, 3) := by decide +kernel
theorem dX2_seekLone_43 : decode cX2_seekLone 43 = .ok (.iload_n 2, 1) := by decide +kernel
theorem dX2_seekLone_44 : decode cX2_seekLone 44 = .ok (.iload_n 1, 1) := by decide +kernel
theorem dX2_seekLone_45 : decode cX2_seekLone 45 = .ok (.iconst 1, 1) := by decide +kernel
theorem dX2_seekLone_46 : decode cX2_seekLone 46 = .ok (.isub, 1) := by decide +kernel
theorem dX2_seekLone_47 : decode cX2_seekLone 47 = .ok (.ishr, 1) := by decide +kernel
theorem dX2_seekLone_48 : decode cX2_seekLone 48 = .ok (.iconst 1, 1) := by decide +kernel
theorem dX2_seekLone_49 : decode cX2_seekLone 49 = .ok (.iand, 1) := by decide +kernel
theorem dX2_seekLone_50 : decode cX2_seekLone 50 = .ok (.ifCond .ne 6, 3) := by decide +kernel
theorem dX2_seekLone_53 : decode cX2_seekLone 53 = .ok (.iload 4, 2) := by decide +kernel
theorem dX2_seekLone_55 : decode cX2_seekLone 55 = .ok (.ireturn, 1) := by decide +kernel
theorem dX2_seekLone_56 : decode cX2_seekLone 56 = .ok (.aload_n 0, 1) := by decide +kernel
theorem dX2_seekLone_57 : decode cX2_seekLone 57 = .ok (.iload_n 1, 1) := by decide +kernel
theorem dX2_seekLone_58 : decode cX2_seekLone 58 = .ok (.iconst 1, 1) := by decide +kernel
theorem dX2_seekLone_59 : decode cX2_seekLone 59 = .ok (.isub, 1) := by decide +kernel
theorem dX2_seekLone_60 : decode cX2_seekLone 60 = .ok (.iload_n 2, 1) := by decide +kernel
theorem dX2_seekLone_61 : decode cX2_seekLone 61 = .ok (.aload_n 0, 1) := by decide +kernel
theorem dX2_seekLone_62 : decode cX2_seekLone 62 = .ok (.getfield 28, 3) := by decide +kernel
theorem dX2_seekLone_65 : decode cX2_seekLone 65 = .ok (.iload_n 1, 1) := by decide +kernel
theorem dX2_seekLone_66 : decode cX2_seekLone 66 = .ok (.iconst 1, 1) := by decide +kernel
theorem dX2_seekLone_67 : decode cX2_seekLone 67 = .ok (.isub, 1) := by decide +kernel
theorem dX2_seekLone_68 : decode cX2_seekLone 68 = .ok (.iaload, 1) := by decide +kernel
theorem dX2_seekLone_69 : decode cX2_seekLone 69 = .ok (.iconst (-1), 1) := by decide +kernel
theorem dX2_seekLone_70 : decode cX2_seekLone 70 = .ok (.ixor, 1) := by decide +kernel
theorem dX2_seekLone_71 : decode cX2_seekLone 71 = .ok (.iand, 1) := by decide +kernel
theorem dX2_seekLone_72 : decode cX2_seekLone 72 = .ok (.iload_n 3, 1) := by decide +kernel
theorem dX2_seekLone_73 : decode cX2_seekLone 73 = .ok (.iconst 1, 1) := by decide +kernel
theorem dX2_seekLone_74 : decode cX2_seekLone 74 = .ok (.isub, 1) := by decide +kernel
theorem dX2_seekLone_75 : decode cX2_seekLone 75 = .ok (.invokestatic 47, 3) := by decide +kernel
theorem dX2_seekLone_78 : decode cX2_seekLone 78 = .ok (.istore 4, 2) := by decide +kernel
theorem dX2_seekLone_80 : decode cX2_seekLone 80 = .ok (.iload 4, 2) := by decide +kernel
theorem dX2_seekLone_82 : decode cX2_seekLone 82 = .ok (.iconst (-1), 1) := by decide +kernel
theorem dX2_seekLone_83 : decode cX2_seekLone 83 = .ok (.if_icmp .ne 7, 3) := by decide +kernel
theorem dX2_seekLone_86 : decode cX2_seekLone 86 = .ok (.iconst (-1), 1) := by decide +kernel
theorem dX2_seekLone_87 : decode cX2_seekLone 87 = .ok (.goto 11, 3) := by decide +kernel
theorem dX2_seekLone_90 : decode cX2_seekLone 90 = .ok (.iload 4, 2) := by decide +kernel
theorem dX2_seekLone_92 : decode cX2_seekLone 92 = .ok (.iconst 1, 1) := by decide +kernel
theorem dX2_seekLone_93 : decode cX2_seekLone 93 = .ok (.iload_n 1, 1) := by decide +kernel
theorem dX2_seekLone_94 : decode cX2_seekLone 94 = .ok (.iconst 1, 1) := by decide +kernel
theorem dX2_seekLone_95 : decode cX2_seekLone 95 = .ok (.isub, 1) := by decide +kernel
theorem dX2_seekLone_96 : decode cX2_seekLone 96 = .ok (.ishl, 1) := by decide +kernel
theorem dX2_seekLone_97 : decode cX2_seekLone 97 = .ok (.ior, 1) := by decide +kernel
theorem dX2_seekLone_98 : decode cX2_seekLone 98 = .ok (.ireturn, 1) := by decide +kernel
theorem dX3_init_0 : decode cX3_init 0 = .ok (.aload_n 0, 1) := by decide +kernel
theorem dX3_init_1 : decode cX3_init 1 = .ok (.invokespecial 3, 3) := by decide +kernel
theorem dX3_init_4 : decode cX3_init 4 = .ok (.aload_n 0, 1) := by decide +kernel
theorem dX3_init_5 : decode cX3_init 5 = .ok (.iconst 0, 1) := by decide +kernel
theorem dX3_init_6 : decode cX3_init 6 = .ok (.putfield 9, 3) := by decide +kernel
theorem dX3_init_9 : decode cX3_init 9 = .ok (.aload_n 0, 1) := by decide +kernel
theorem dX3_init_10 : decode cX3_init 10 = .ok (.iconst 0, 1) := by decide +kernel
theorem dX3_init_11 : decode cX3_init 11 = .ok (.putfield 15, 3) := by decide +kernel
theorem dX3_init_14 : decode cX3_init 14 = .ok (.aload_n 0, 1) := by decide +kernel
theorem dX3_init_15 : decode cX3_init 15 = .ok (.bipush 50, 2) := by decide +kernel
theorem dX3_init_17 : decode cX3_init 17 = .ok (.putfield 18, 3) := by decide +kernel
theorem dX3_init_20 : decode cX3_init 20 = .ok (.aload_n 0, 1) := by decide +kernel
theorem dX3_init_21 : decode cX3_init 21 = .ok (.iconst 0, 1) := by decide +kernel
theorem dX3_init_22 : decode cX3_init 22 = .ok (.putfield 21, 3) := by decide +kernel
theorem dX3_init_25 : decode cX3_init 25 = .ok (.aload_n 0, 1) := by decide +kernel
theorem dX3_init_26 : decode cX3_init 26 = .ok (.iconst 0, 1) := by decide +kernel
theorem dX3_init_27 : decode cX3_init 27 = .ok (.putfield 24, 3) := by decide +kernel
theorem dX3_init_30 : decode cX3_init 30 = .ok (.aload_n 0, 1) := by decide +kernel
theorem dX3_init_31 : decode cX3_init 31 = .ok (.iconst 0, 1) := by decide +kernel
theorem dX3_init_32 : decode cX3_init 32 = .ok (.putfield 27, 3) := by decide +kernel
theorem dX3_init_35 : decode cX3_init 35 = .ok (.aload_n 0, 1) := by decide +kernel
theorem dX3_init_36 : decode cX3_init 36 = .ok (.iconst 0, 1) := by decide +kernel
theorem dX3_init_37 : decode cX3_init 37 = .ok (.putfield 30, 3) := by decide +kernel
theorem dX3_init_40 : decode cX3_init 40 = .ok (.aload_n 0, 1) := by decide +kernel
theorem dX3_init_41 : decode cX3_init 41 = .ok (.sipush 240, 3) := by decide +kernel
theorem dX3_init_44 : decode cX3_init 44 = .ok (.newarray .int, 2) := by decide +kernel
theorem dX3_init_46 : decode cX3_init 46 = .ok (.putfield 33, 3) := by decide +kernel
theorem dX3_init_49 : decode cX3_init 49 = .ok (.aload_n 0, 1) := by decide +kernel
theorem dX3_init_50 : decode cX3_init 50 = .ok (.bipush 8, 2) := by decide +kernel
theorem dX3_init_52 : decode cX3_init 52 = .ok (.newarray .int, 2) := by decide +kernel
theorem dX3_init_54 : decode cX3_init 54 = .ok (.putfield 37, 3) := by decide +kernel
theorem dX3_init_57 : decode cX3_init 57 = .ok (.aload_n 0, 1) := by decide +kernel
theorem dX3_init_58 : decode cX3_init 58 = .ok (.bipush 120, 2) := by decide +kernel
theorem dX3_init_60 : decode cX3_init 60 = .ok (.newarray .int, 2) := by decide +kernel
theorem dX3_init_62 : decode cX3_init 62 = .ok (.putfield 40, 3) := by decide +kernel
theorem dX3_init_65 : decode cX3_init 65 = .ok (.aload_n 0, 1) := by decide +kernel
theorem dX3_init_66 : decode cX3_init 66 = .ok (.bipush 40, 2) := by decide +kernel
theorem dX3_init_68 : decode cX3_init 68 = .ok (.newarray .int, 2) := by decide +kernel
theorem dX3_init_70 : decode cX3_init 70 = .ok (.putfield 43, 3) := by decide +kernel
theorem dX3_init_73 : decode cX3_init 73 = .ok (.aload_n 0, 1) := by decide +kernel
theorem dX3_init_74 : decode cX3_init 74 = .ok (.bipush 16, 2) := by decide +kernel
theorem dX3_init_76 : decode cX3_init 76 = .ok (.newarray .int, 2) := by decide +kernel
theorem dX3_init_78 : decode cX3_init 78 = .ok (.putfield 46, 3) := by decide +kernel
theorem dX3_init_81 : decode cX3_init 81 = .ok (.aload_n 0, 1) := by decide +kernel
theorem dX3_init_82 : decode cX3_init 82 = .ok (.bipush 16, 2) := by decide +kernel
theorem dX3_init_84 : decode cX3_init 84 = .ok (.newarray .int, 2) := by decide +kernel
theorem dX3_init_86 : decode cX3_init 86 = .ok (.putfield 49, 3) := by decide +kernel
theorem dX3_init_89 : decode cX3_init 89 = .ok (.aload_n 0, 1) := by decide +kernel
theorem dX3_init_90 : decode cX3_init 90 = .ok (.bipush 16, 2) := by decide +kernel
theorem dX3_init_92 : decode cX3_init 92 = .ok (.newarray .int, 2) := by decide +kernel
theorem dX3_init_94 : decode cX3_init 94 = .ok (.putfield 52, 3) := by decide +kernel
theorem dX3_init_97 : decode cX3_init 97 = .ok (.aload_n 0, 1) := by decide +kernel
theorem dX3_init_98 : decode cX3_init 98 = .ok (.bipush 16, 2) := by decide +kernel
theorem dX3_init_100 : decode cX3_init 100 = .ok (.newarray .int, 2) := by decide +kernel
theorem dX3_init_102 : decode cX3_init 102 = .ok (.putfield 55, 3) := by decide +kernel
theorem dX3_init_105 : decode cX3_init 105 = .ok (.aload_n 0, 1) := by decide +kernel
theorem dX3_init_106 : decode cX3_init 106 = .ok (.sipush 256, 3) := by decide +kernel
theorem dX3_init_109 : decode cX3_init 109 = .ok (.newarray .int, 2) := by decide +kernel
theorem dX3_init_111 : decode cX3_init 111 = .ok (.putfield 58, 3) := by decide +kernel
theorem dX3_init_114 : decode cX3_init 114 = .ok (.aload_n 0, 1) := by decide +kernel
theorem dX3_init_115 : decode cX3_init 115 = .ok (.getfield 46, 3) := by decide +kernel
theorem dX3_init_118 : decode cX3_init 118 = .ok (.bipush 10, 2) := by decide +kernel
theorem dX3_init_120 : decode cX3_init 120 = .ok (.invokestatic 61, 3) := by decide +kernel
theorem dX3_init_123 : decode cX3_init 123 = .ok (.aload_n 0, 1) := by decide +kernel
theorem dX3_init_124 : decode cX3_init 124 = .ok (.getfield 58, 3) := by decide +kernel
theorem dX3_init_127 : decode cX3_init 127 = .ok (.iconst (-1), 1) := by decide +kernel
theorem dX3_init_128 : decode cX3_init 128 = .ok (.invokestatic 61, 3) := by decide +kernel
theorem dX3_init_131 : decode cX3_init 131 = .ok (.return_, 1) := by decide +kernel
theorem dX3_allRooms_0 : decode cX3_allRooms 0 = .ok (.iconst 1, 1) := by decide +kernel
theorem dX3_allRooms_1 : decode cX3_allRooms 1 = .ok (.aload_n 0, 1) := by decide +kernel
theorem dX3_allRooms_2 : decode cX3_allRooms 2 = .ok (.getfield 15, 3) := by decide +kernel
theorem dX3_allRooms_5 : decode cX3_allRooms 5 = .ok (.ishl, 1) := by decide +kernel
theorem dX3_allRooms_6 : decode cX3_allRooms 6 = .ok (.iconst 1, 1) := by decide +kernel
theorem dX3_allRooms_7 : decode cX3_allRooms 7 = .ok (.isub, 1) := by decide +kernel
theorem dX3_allRooms_8 : decode cX3_allRooms 8 = .ok (.ireturn, 1) := by decide +kernel
theorem dX3_oilOf_0 : decode cX3_oilOf 0 = .ok (.iload_n 1, 1) := by decide +kernel
theorem dX3_oilOf_1 : decode cX3_oilOf 1 = .ok (.ifCond .lt 24, 3) := by decide +kernel
theorem dX3_oilOf_4 : decode cX3_oilOf 4 = .ok (.iload_n 1, 1) := by decide +kernel
theorem dX3_oilOf_5 : decode cX3_oilOf 5 = .ok (.aload_n 0, 1) := by decide +kernel
theorem dX3_oilOf_6 : decode cX3_oilOf 6 = .ok (.getfield 24, 3) := by decide +kernel
theorem dX3_oilOf_9 : decode cX3_oilOf 9 = .ok (.if_icmp .ge 16, 3) := by decide +kernel
theorem dX3_oilOf_12 : decode cX3_oilOf 12 = .ok (.aload_n 0, 1) := by decide +kernel
theorem dX3_oilOf_13 : decode cX3_oilOf 13 = .ok (.getfield 37, 3) := by decide +kernel
theorem dX3_oilOf_16 : decode cX3_oilOf 16 = .ok (.iload_n 1, 1) := by decide +kernel
theorem dX3_oilOf_17 : decode cX3_oilOf 17 = .ok (.iconst 2, 1) := by decide +kernel
theorem dX3_oilOf_18 : decode cX3_oilOf 18 = .ok (.imul, 1) := by decide +kernel
theorem dX3_oilOf_19 : decode cX3_oilOf 19 = .ok (.iconst 1, 1) := by decide +kernel
theorem dX3_oilOf_20 : decode cX3_oilOf 20 = .ok (.iadd, 1) := by decide +kernel
theorem dX3_oilOf_21 : decode cX3_oilOf 21 = .ok (.iaload, 1) := by decide +kernel
theorem dX3_oilOf_22 : decode cX3_oilOf 22 = .ok (.goto 4, 3) := by decide +kernel
theorem dX3_oilOf_25 : decode cX3_oilOf 25 = .ok (.iconst 0, 1) := by decide +kernel
theorem dX3_oilOf_26 : decode cX3_oilOf 26 = .ok (.ireturn, 1) := by decide +kernel
theorem dX3_brightOf_0 : decode cX3_brightOf 0 = .ok (.iload_n 1, 1) := by decide +kernel
theorem dX3_brightOf_1 : decode cX3_brightOf 1 = .ok (.ifCond .lt 22, 3) := by decide +kernel
theorem dX3_brightOf_4 : decode cX3_brightOf 4 = .ok (.iload_n 1, 1) := by decide +kernel
theorem dX3_brightOf_5 : decode cX3_brightOf 5 = .ok (.aload_n 0, 1) := by decide +kernel
theorem dX3_brightOf_6 : decode cX3_brightOf 6 = .ok (.getfield 24, 3) := by decide +kernel
theorem dX3_brightOf_9 : decode cX3_brightOf 9 = .ok (.if_icmp .ge 14, 3) := by decide +kernel
theorem dX3_brightOf_12 : decode cX3_brightOf 12 = .ok (.aload_n 0, 1) := by decide +kernel
theorem dX3_brightOf_13 : decode cX3_brightOf 13 = .ok (.getfield 37, 3) := by decide +kernel
theorem dX3_brightOf_16 : decode cX3_brightOf 16 = .ok (.iload_n 1, 1) := by decide +kernel
theorem dX3_brightOf_17 : decode cX3_brightOf 17 = .ok (.iconst 2, 1) := by decide +kernel
theorem dX3_brightOf_18 : decode cX3_brightOf 18 = .ok (.imul, 1) := by decide +kernel
theorem dX3_brightOf_19 : decode cX3_brightOf 19 = .ok (.iaload, 1) := by decide +kernel
theorem dX3_brightOf_20 : decode cX3_brightOf 20 = .ok (.goto 4, 3) := by decide +kernel
theorem dX3_brightOf_23 : decode cX3_brightOf 23 = .ok (.iconst 0, 1) := by decide +kernel
theorem dX3_brightOf_24 : decode cX3_brightOf 24 = .ok (.ireturn, 1) := by decide +kernel
theorem dX3_holeCosts_0 : decode cX3_holeCosts 0 = .ok (.iload_n 1, 1) := by decide +kernel
theorem dX3_holeCosts_1 : decode cX3_holeCosts 1 = .ok (.ifCond .lt 24, 3) := by decide +kernel
theorem dX3_holeCosts_4 : decode cX3_holeCosts 4 = .ok (.iload_n 1, 1) := by decide +kernel
theorem dX3_holeCosts_5 : decode cX3_holeCosts 5 = .ok (.aload_n 0, 1) := by decide +kernel
theorem dX3_holeCosts_6 : decode cX3_holeCosts 6 = .ok (.getfield 30, 3) := by decide +kernel
theorem dX3_holeCosts_9 : decode cX3_holeCosts 9 = .ok (.if_icmp .ge 16, 3) := by decide +kernel
theorem dX3_holeCosts_12 : decode cX3_holeCosts 12 = .ok (.aload_n 0, 1) := by decide +kernel
theorem dX3_holeCosts_13 : decode cX3_holeCosts 13 = .ok (.getfield 43, 3) := by decide +kernel
theorem dX3_holeCosts_16 : decode cX3_holeCosts 16 = .ok (.iload_n 1, 1) := by decide +kernel
theorem dX3_holeCosts_17 : decode cX3_holeCosts 17 = .ok (.iconst 5, 1) := by decide +kernel
theorem dX3_holeCosts_18 : decode cX3_holeCosts 18 = .ok (.imul, 1) := by decide +kernel
theorem dX3_holeCosts_19 : decode cX3_holeCosts 19 = .ok (.iconst 3, 1) := by decide +kernel
theorem dX3_holeCosts_20 : decode cX3_holeCosts 20 = .ok (.iadd, 1) := by decide +kernel
theorem dX3_holeCosts_21 : decode cX3_holeCosts 21 = .ok (.iaload, 1) := by decide +kernel
theorem dX3_holeCosts_22 : decode cX3_holeCosts 22 = .ok (.goto 4, 3) := by decide +kernel
theorem dX3_holeCosts_25 : decode cX3_holeCosts 25 = .ok (.iconst 0, 1) := by decide +kernel
theorem dX3_holeCosts_26 : decode cX3_holeCosts 26 = .ok (.ireturn, 1) := by decide +kernel
theorem dX3_findNext_0 : decode cX3_findNext 0 = .ok (.iconst 0, 1) := by decide +kernel
theorem dX3_findNext_1 : decode cX3_findNext 1 = .ok (.istore_n 1, 1) := by decide +kernel
theorem dX3_findNext_2 : decode cX3_findNext 2 = .ok (.iload_n 1, 1) := by decide +kernel
theorem dX3_findNext_3 : decode cX3_findNext 3 = .ok (.aload_n 0, 1) := by decide +kernel
theorem dX3_findNext_4 : decode cX3_findNext 4 = .ok (.getfield 21, 3) := by decide +kernel
theorem dX3_findNext_7 : decode cX3_findNext 7 = .ok (.if_icmp .ge 67, 3) := by decide +kernel
theorem dX3_findNext_10 : decode cX3_findNext 10 = .ok (.aload_n 0, 1) := by decide +kernel
theorem dX3_findNext_11 : decode cX3_findNext 11 = .ok (.aload_n 0, 1) := by decide +kernel
theorem dX3_findNext_12 : decode cX3_findNext 12 = .ok (.getfield 33, 3) := by decide +kernel
theorem dX3_findNext_15 : decode cX3_findNext 15 = .ok (.iload_n 1, 1) := by decide +kernel
theorem dX3_findNext_16 : decode cX3_findNext 16 = .ok (.iconst 4, 1) := by decide +kernel
theorem dX3_findNext_17 : decode cX3_findNext 17 = .ok (.imul, 1) := by decide +kernel
theorem dX3_findNext_18 : decode cX3_findNext 18 = .ok (.iaload, 1) := by decide +kernel
theorem dX3_findNext_19 : decode cX3_findNext 19 = .ok (.aload_n 0, 1) := by decide +kernel
theorem dX3_findNext_20 : decode cX3_findNext 20 = .ok (.getfield 33, 3) := by decide +kernel
theorem dX3_findNext_23 : decode cX3_findNext 23 = .ok (.iload_n 1, 1) := by decide +kernel
theorem dX3_findNext_24 : decode cX3_findNext 24 = .ok (.iconst 4, 1) := by decide +kernel
theorem dX3_findNext_25 : decode cX3_findNext 25 = .ok (.imul, 1) := by decide +kernel
theorem dX3_findNext_26 : decode cX3_findNext 26 = .ok (.iconst 1, 1) := by decide +kernel
theorem dX3_findNext_27 : decode cX3_findNext 27 = .ok (.iadd, 1) := by decide +kernel
theorem dX3_findNext_28 : decode cX3_findNext 28 = .ok (.iaload, 1) := by decide +kernel
theorem dX3_findNext_29 : decode cX3_findNext 29 = .ok (.invokevirtual 67, 3) := by decide +kernel
theorem dX3_findNext_32 : decode cX3_findNext 32 = .ok (.aload_n 0, 1) := by decide +kernel
theorem dX3_findNext_33 : decode cX3_findNext 33 = .ok (.getfield 33, 3) := by decide +kernel
theorem dX3_findNext_36 : decode cX3_findNext 36 = .ok (.iload_n 1, 1) := by decide +kernel
theorem dX3_findNext_37 : decode cX3_findNext 37 = .ok (.iconst 4, 1) := by decide +kernel
theorem dX3_findNext_38 : decode cX3_findNext 38 = .ok (.imul, 1) := by decide +kernel
theorem dX3_findNext_39 : decode cX3_findNext 39 = .ok (.iconst 3, 1) := by decide +kernel
theorem dX3_findNext_40 : decode cX3_findNext 40 = .ok (.iadd, 1) := by decide +kernel
theorem dX3_findNext_41 : decode cX3_findNext 41 = .ok (.iaload, 1) := by decide +kernel
theorem dX3_findNext_42 : decode cX3_findNext 42 = .ok (.iconst 1, 1) := by decide +kernel
theorem dX3_findNext_43 : decode cX3_findNext 43 = .ok (.if_icmp .ne 25, 3) := by decide +kernel
theorem dX3_findNext_46 : decode cX3_findNext 46 = .ok (.aload_n 0, 1) := by decide +kernel
theorem dX3_findNext_47 : decode cX3_findNext 47 = .ok (.aload_n 0, 1) := by decide +kernel
theorem dX3_findNext_48 : decode cX3_findNext 48 = .ok (.getfield 33, 3) := by decide +kernel
theorem dX3_findNext_51 : decode cX3_findNext 51 = .ok (.iload_n 1, 1) := by decide +kernel
theorem dX3_findNext_52 : decode cX3_findNext 52 = .ok (.iconst 4, 1) := by decide +kernel
theorem dX3_findNext_53 : decode cX3_findNext 53 = .ok (.imul, 1) := by decide +kernel
theorem dX3_findNext_54 : decode cX3_findNext 54 = .ok (.iconst 1, 1) := by decide +kernel
theorem dX3_findNext_55 : decode cX3_findNext 55 = .ok (.iadd, 1) := by decide +kernel
theorem dX3_findNext_56 : decode cX3_findNext 56 = .ok (.iaload, 1) := by decide +kernel
theorem dX3_findNext_57 : decode cX3_findNext 57 = .ok (.aload_n 0, 1) := by decide +kernel
theorem dX3_findNext_58 : decode cX3_findNext 58 = .ok (.getfield 33, 3) := by decide +kernel
theorem dX3_findNext_61 : decode cX3_findNext 61 = .ok (.iload_n 1, 1) := by decide +kernel
theorem dX3_findNext_62 : decode cX3_findNext 62 = .ok (.iconst 4, 1) := by decide +kernel
theorem dX3_findNext_63 : decode cX3_findNext 63 = .ok (.imul, 1) := by decide +kernel
theorem dX3_findNext_64 : decode cX3_findNext 64 = .ok (.iaload, 1) := by decide +kernel
theorem dX3_findNext_65 : decode cX3_findNext 65 = .ok (.invokevirtual 67, 3) := by decide +kernel
theorem dX3_findNext_68 : decode cX3_findNext 68 = .ok (.iinc 1 1, 3) := by decide +kernel
theorem dX3_findNext_71 : decode cX3_findNext 71 = .ok (.goto (-69), 3) := by decide +kernel
theorem dX3_findNext_74 : decode cX3_findNext 74 = .ok (.return_, 1) := by decide +kernel
theorem dX3_join_0 : decode cX3_join 0 = .ok (.aload_n 0, 1) := by decide +kernel
theorem dX3_join_1 : decode cX3_join 1 = .ok (.getfield 55, 3) := by decide +kernel
theorem dX3_join_4 : decode cX3_join 4 = .ok (.iload_n 1, 1) := by decide +kernel
theorem dX3_join_5 : decode cX3_join 5 = .ok (.dup2, 1) := by decide +kernel
theorem dX3_join_6 : decode cX3_join 6 = .ok (.iaload, 1) := by decide +kernel
theorem dX3_join_7 : decode cX3_join 7 = .ok (.iconst 1, 1) := by decide +kernel
theorem dX3_join_8 : decode cX3_join 8 = .ok (.iload_n 2, 1) := by decide +kernel
theorem dX3_join_9 : decode cX3_join 9 = .ok (.ishl, 1) := by decide +kernel
theorem dX3_join_10 : decode cX3_join 10 = .ok (.ior, 1) := by decide +kernel
theorem dX3_join_11 : decode cX3_join 11 = .ok (.iastore, 1) := by decide +kernel
theorem dX3_join_12 : decode cX3_join 12 = .ok (.aload_n 0, 1) := by decide +kernel
theorem dX3_join_13 : decode cX3_join 13 = .ok (.getfield 52, 3) := by decide +kernel
theorem dX3_join_16 : decode cX3_join 16 = .ok (.iload_n 2, 1) := by decide +kernel
theorem dX3_join_17 : decode cX3_join 17 = .ok (.dup2, 1) := by decide +kernel
theorem dX3_join_18 : decode cX3_join 18 = .ok (.iaload, 1) := by decide +kernel
theorem dX3_join_19 : decode cX3_join 19 = .ok (.iconst 1, 1) := by decide +kernel
theorem dX3_join_20 : decode cX3_join 20 = .ok (.iload_n 1, 1) := by decide +kernel
theorem dX3_join_21 : decode cX3_join 21 = .ok (.ishl, 1) := by decide +kernel
theorem dX3_join_22 : decode cX3_join 22 = .ok (.ior, 1) := by decide +kernel
theorem dX3_join_23 : decode cX3_join 23 = .ok (.iastore, 1) := by decide +kernel
theorem dX3_join_24 : decode cX3_join 24 = .ok (.return_, 1) := by decide +kernel
theorem dX3_findWalks_0 : decode cX3_findWalks 0 = .ok (.iconst 0, 1) := by decide +kernel
theorem dX3_findWalks_1 : decode cX3_findWalks 1 = .ok (.istore_n 1, 1) := by decide +kernel
theorem dX3_findWalks_2 : decode cX3_findWalks 2 = .ok (.iload_n 1, 1) := by decide +kernel
theorem dX3_findWalks_3 : decode cX3_findWalks 3 = .ok (.aload_n 0, 1) := by decide +kernel
theorem dX3_findWalks_4 : decode cX3_findWalks 4 = .ok (.getfield 15, 3) := by decide +kernel
theorem dX3_findWalks_7 : decode cX3_findWalks 7 = .ok (.if_icmp .ge 112, 3) := by decide +kernel
theorem dX3_findWalks_10 : decode cX3_findWalks 10 = .ok (.iconst 1, 1) := by decide +kernel
theorem dX3_findWalks_11 : decode cX3_findWalks 11 = .ok (.iload_n 1, 1) := by decide +kernel
theorem dX3_findWalks_12 : decode cX3_findWalks 12 = .ok (.ishl, 1) := by decide +kernel
theorem dX3_findWalks_13 : decode cX3_findWalks 13 = .ok (.istore_n 2, 1) := by decide +kernel
theorem dX3_findWalks_14 : decode cX3_findWalks 14 = .ok (.iload_n 2, 1) := by decide +kernel
theorem dX3_findWalks_15 : decode cX3_findWalks 15 = .ok (.istore_n 3, 1) := by decide +kernel
theorem dX3_findWalks_16 : decode cX3_findWalks 16 = .ok (.iconst 0, 1) := by decide +kernel
theorem dX3_findWalks_17 : decode cX3_findWalks 17 = .ok (.istore 4, 2) := by decide +kernel
theorem dX3_findWalks_19 : decode cX3_findWalks 19 = .ok (.iload 4, 2) := by decide +kernel
theorem dX3_findWalks_21 : decode cX3_findWalks 21 = .ok (.aload_n 0, 1) := by decide +kernel
theorem dX3_findWalks_22 : decode cX3_findWalks 22 = .ok (.getfield 15, 3) := by decide +kernel
theorem dX3_findWalks_25 : decode cX3_findWalks 25 = .ok (.if_icmp .ge 88, 3) := by decide +kernel
theorem dX3_findWalks_28 : decode cX3_findWalks 28 = .ok (.iload_n 3, 1) := by decide +kernel
theorem dX3_findWalks_29 : decode cX3_findWalks 29 = .ok (.ifCond .eq 84, 3) := by decide +kernel
theorem dX3_findWalks_32 : decode cX3_findWalks 32 = .ok (.iconst 0, 1) := by decide +kernel
theorem dX3_findWalks_33 : decode cX3_findWalks 33 = .ok (.istore 5, 2) := by decide +kernel
theorem dX3_findWalks_35 : decode cX3_findWalks 35 = .ok (.iconst 0, 1) := by decide +kernel
theorem dX3_findWalks_36 : decode cX3_findWalks 36 = .ok (.istore 6, 2) := by decide +kernel
theorem dX3_findWalks_38 : decode cX3_findWalks 38 = .ok (.iload 6, 2) := by decide +kernel
theorem dX3_findWalks_40 : decode cX3_findWalks 40 = .ok (.aload_n 0, 1) := by decide +kernel
theorem dX3_findWalks_41 : decode cX3_findWalks 41 = .ok (.getfield 15, 3) := by decide +kernel
theorem dX3_findWalks_44 : decode cX3_findWalks 44 = .ok (.if_icmp .ge 52, 3) := by decide +kernel
theorem dX3_findWalks_47 : decode cX3_findWalks 47 = .ok (.iload_n 3, 1) := by decide +kernel
theorem dX3_findWalks_48 : decode cX3_findWalks 48 = .ok (.iload 6, 2) := by decide +kernel
theorem dX3_findWalks_50 : decode cX3_findWalks 50 = .ok (.ishr, 1) := by decide +kernel
theorem dX3_findWalks_51 : decode cX3_findWalks 51 = .ok (.iconst 1, 1) := by decide +kernel
theorem dX3_findWalks_52 : decode cX3_findWalks 52 = .ok (.iand, 1) := by decide +kernel
theorem dX3_findWalks_53 : decode cX3_findWalks 53 = .ok (.ifCond .eq 37, 3) := by decide +kernel
theorem dX3_findWalks_56 : decode cX3_findWalks 56 = .ok (.aload_n 0, 1) := by decide +kernel
theorem dX3_findWalks_57 : decode cX3_findWalks 57 = .ok (.getfield 58, 3) := by decide +kernel
theorem dX3_findWalks_60 : decode cX3_findWalks 60 = .ok (.iload_n 1, 1) := by decide +kernel
theorem dX3_findWalks_61 : decode cX3_findWalks 61 = .ok (.bipush 16, 2) := by decide +kernel
theorem dX3_findWalks_63 : decode cX3_findWalks 63 = .ok (.imul, 1) := by decide +kernel
theorem dX3_findWalks_64 : decode cX3_findWalks 64 = .ok (.iload 6, 2) := by decide +kernel
theorem dX3_findWalks_66 : decode cX3_findWalks 66 = .ok (.iadd, 1) := by decide +kernel
theorem dX3_findWalks_67 : decode cX3_findWalks 67 = .ok (.iload 4, 2) := by decide +kernel
theorem dX3_findWalks_69 : decode cX3_findWalks 69 = .ok (.iastore, 1) := by decide +kernel
theorem dX3_findWalks_70 : decode cX3_findWalks 70 = .ok (.iload 5, 2) := by decide +kernel
theorem dX3_findWalks_72 : decode cX3_findWalks 72 = .ok (.aload_n 0, 1) := by decide +kernel
theorem dX3_findWalks_73 : decode cX3_findWalks 73 = .ok (.getfield 52, 3) := by decide +kernel
theorem dX3_findWalks_76 : decode cX3_findWalks 76 = .ok (.iload 6, 2) := by decide +kernel
theorem dX3_findWalks_78 : decode cX3_findWalks 78 = .ok (.iaload, 1) := by decide +kernel
theorem dX3_findWalks_79 : decode cX3_findWalks 79 = .ok (.aload_n 0, 1) := by decide +kernel
theorem dX3_findWalks_80 : decode cX3_findWalks 80 = .ok (.getfield 55, 3) := by decide +kernel
theorem dX3_findWalks_83 : decode cX3_findWalks 83 = .ok (.iload 6, 2) := by decide +kernel
theorem dX3_findWalks_85 : decode cX3_findWalks 85 = .ok (.iaload, 1) := by decide +kernel
theorem dX3_findWalks_86 : decode cX3_findWalks 86 = .ok (.ior, 1) := by decide +kernel
theorem dX3_findWalks_87 : decode cX3_findWalks 87 = .ok (.ior, 1) := by decide +kernel
theorem dX3_findWalks_88 : decode cX3_findWalks 88 = .ok (.istore 5, 2) := by decide +kernel
theorem dX3_findWalks_90 : decode cX3_findWalks 90 = .ok (.iinc 6 1, 3) := by decide +kernel
theorem dX3_findWalks_93 : decode cX3_findWalks 93 = .ok (.goto (-55), 3) := by decide +kernel
theorem dX3_findWalks_96 : decode cX3_findWalks 96 = .ok (.iload 5, 2) := by decide +kernel
theorem dX3_findWalks_98 : decode cX3_findWalks 98 = .ok (.iload_n 2, 1) := by decide +kernel
theorem dX3_findWalks_99 : decode cX3_findWalks 99 = .ok (.iconst (-1), 1) := by decide +kernel
theorem dX3_findWalks_100 : decode cX3_findWalks 100 = .ok (.ixor, 1) := by decide +kernel
theorem dX3_findWalks_101 : decode cX3_findWalks 101 = .ok (.iand, 1) := by decide +kernel
theorem dX3_findWalks_102 : decode cX3_findWalks 102 = .ok (.istore_n 3, 1) := by decide +kernel
theorem dX3_findWalks_103 : decode cX3_findWalks 103 = .ok (.iload_n 2, 1) := by decide +kernel
theorem dX3_findWalks_104 : decode cX3_findWalks 104 = .ok (.iload_n 3, 1) := by decide +kernel
theorem dX3_findWalks_105 : decode cX3_findWalks 105 = .ok (.ior, 1) := by decide +kernel
theorem dX3_findWalks_106 : decode cX3_findWalks 106 = .ok (.istore_n 2, 1) := by decide +kernel
theorem dX3_findWalks_107 : decode cX3_findWalks 107 = .ok (.iinc 4 1, 3) := by decide +kernel
theorem dX3_findWalks_110 : decode cX3_findWalks 110 = .ok (.goto (-91), 3) := by decide +kernel
theorem dX3_findWalks_113 : decode cX3_findWalks 113 = .ok (.iinc 1 1, 3) := by decide +kernel
theorem dX3_findWalks_116 : decode cX3_findWalks 116 = .ok (.goto (-114), 3) := by decide +kernel
theorem dX3_findWalks_119 : decode cX3_findWalks 119 = .ok (.return_, 1) := by decide +kernel
theorem dX3_litBy_0 : decode cX3_litBy 0 = .ok (.iconst 0, 1) := by decide +kernel
theorem dX3_litBy_1 : decode cX3_litBy 1 = .ok (.istore_n 2, 1) := by decide +kernel
theorem dX3_litBy_2 : decode cX3_litBy 2 = .ok (.iconst 0, 1) := by decide +kernel
theorem dX3_litBy_3 : decode cX3_litBy 3 = .ok (.istore_n 3, 1) := by decide +kernel
theorem dX3_litBy_4 : decode cX3_litBy 4 = .ok (.iload_n 3, 1) := by decide +kernel
theorem dX3_litBy_5 : decode cX3_litBy 5 = .ok (.aload_n 0, 1) := by decide +kernel
theorem dX3_litBy_6 : decode cX3_litBy 6 = .ok (.getfield 15, 3) := by decide +kernel
theorem dX3_litBy_9 : decode cX3_litBy 9 = .ok (.if_icmp .ge 26, 3) := by decide +kernel
theorem dX3_litBy_12 : decode cX3_litBy 12 = .ok (.iload_n 1, 1) := by decide +kernel
theorem dX3_litBy_13 : decode cX3_litBy 13 = .ok (.iload_n 3, 1) := by decide +kernel
theorem dX3_litBy_14 : decode cX3_litBy 14 = .ok (.ishr, 1) := by decide +kernel
theorem dX3_litBy_15 : decode cX3_litBy 15 = .ok (.iconst 1, 1) := by decide +kernel
theorem dX3_litBy_16 : decode cX3_litBy 16 = .ok (.iand, 1) := by decide +kernel
theorem dX3_litBy_17 : decode cX3_litBy 17 = .ok (.ifCond .eq 12, 3) := by decide +kernel
theorem dX3_litBy_20 : decode cX3_litBy 20 = .ok (.iload_n 2, 1) := by decide +kernel
theorem dX3_litBy_21 : decode cX3_litBy 21 = .ok (.aload_n 0, 1) := by decide +kernel
theorem dX3_litBy_22 : decode cX3_litBy 22 = .ok (.getfield 55, 3) := by decide +kernel
theorem dX3_litBy_25 : decode cX3_litBy 25 = .ok (.iload_n 3, 1) := by decide +kernel
theorem dX3_litBy_26 : decode cX3_litBy 26 = .ok (.iaload, 1) := by decide +kernel
theorem dX3_litBy_27 : decode cX3_litBy 27 = .ok (.ior, 1) := by decide +kernel
theorem dX3_litBy_28 : decode cX3_litBy 28 = .ok (.istore_n 2, 1) := by decide +kernel
theorem dX3_litBy_29 : decode cX3_litBy 29 = .ok (.iinc 3 1, 3) := by decide +kernel
theorem dX3_litBy_32 : decode cX3_litBy 32 = .ok (.goto (-28), 3) := by decide +kernel
theorem dX3_litBy_35 : decode cX3_litBy 35 = .ok (.iload_n 2, 1) := by decide +kernel
theorem dX3_litBy_36 : decode cX3_litBy 36 = .ok (.ireturn, 1) := by decide +kernel
theorem dX3_unbearable_0 : decode cX3_unbearable 0 = .ok (.iconst 0, 1) := by decide +kernel
theorem dX3_unbearable_1 : decode cX3_unbearable 1 = .ok (.istore_n 1, 1) := by decide +kernel
theorem dX3_unbearable_2 : decode cX3_unbearable 2 = .ok (.iconst 0, 1) := by decide +kernel
theorem dX3_unbearable_3 : decode cX3_unbearable 3 = .ok (.istore_n 2, 1) := by decide +kernel
theorem dX3_unbearable_4 : decode cX3_unbearable 4 = .ok (.iload_n 2, 1) := by decide +kernel
theorem dX3_unbearable_5 : decode cX3_unbearable 5 = .ok (.aload_n 0, 1) := by decide +kernel
theorem dX3_unbearable_6 : decode cX3_unbearable 6 = .ok (.getfield 15, 3) := by decide +kernel
theorem dX3_unbearable_9 : decode cX3_unbearable 9 = .ok (.if_icmp .ge 25, 3) := by decide +kernel
theorem dX3_unbearable_12 : decode cX3_unbearable 12 = .ok (.iload_n 1, 1) := by decide +kernel
theorem dX3_unbearable_13 : decode cX3_unbearable 13 = .ok (.aload_n 0, 1) := by decide +kernel
theorem dX3_unbearable_14 : decode cX3_unbearable 14 = .ok (.getfield 49, 3) := by decide +kernel
theorem dX3_unbearable_17 : decode cX3_unbearable 17 = .ok (.iload_n 2, 1) := by decide +kernel
theorem dX3_unbearable_18 : decode cX3_unbearable 18 = .ok (.iaload, 1) := by decide +kernel
theorem dX3_unbearable_19 : decode cX3_unbearable 19 = .ok (.aload_n 0, 1) := by decide +kernel
theorem dX3_unbearable_20 : decode cX3_unbearable 20 = .ok (.getfield 52, 3) := by decide +kernel
theorem dX3_unbearable_23 : decode cX3_unbearable 23 = .ok (.iload_n 2, 1) := by decide +kernel
theorem dX3_unbearable_24 : decode cX3_unbearable 24 = .ok (.iaload, 1) := by decide +kernel
theorem dX3_unbearable_25 : decode cX3_unbearable 25 = .ok (.iand, 1) := by decide +kernel
theorem dX3_unbearable_26 : decode cX3_unbearable 26 = .ok (.ior, 1) := by decide +kernel
theorem dX3_unbearable_27 : decode cX3_unbearable 27 = .ok (.istore_n 1, 1) := by decide +kernel
theorem dX3_unbearable_28 : decode cX3_unbearable 28 = .ok (.iinc 2 1, 3) := by decide +kernel
theorem dX3_unbearable_31 : decode cX3_unbearable 31 = .ok (.goto (-27), 3) := by decide +kernel
theorem dX3_unbearable_34 : decode cX3_unbearable 34 = .ok (.iload_n 1, 1) := by decide +kernel
theorem dX3_unbearable_35 : decode cX3_unbearable 35 = .ok (.ireturn, 1) := by decide +kernel
theorem dX3_litWithHole_0 : decode cX3_litWithHole 0 = .ok (.aload_n 0, 1) := by decide +kernel
theorem dX3_litWithHole_1 : decode cX3_litWithHole 1 = .ok (.getfield 55, 3) := by decide +kernel
theorem dX3_litWithHole_4 : decode cX3_litWithHole 4 = .ok (.invokevirtual 71, 3) := by decide +kernel
theorem dX3_litWithHole_7 : decode cX3_litWithHole 7 = .ok (.checkcast 72, 3) := by decide +kernel
theorem dX3_litWithHole_10 : decode cX3_litWithHole 10 = .ok (.astore_n 2, 1) := by decide +kernel
theorem dX3_litWithHole_11 : decode cX3_litWithHole 11 = .ok (.aload_n 0, 1) := by decide +kernel
theorem dX3_litWithHole_12 : decode cX3_litWithHole 12 = .ok (.getfield 43, 3) := by decide +kernel
theorem dX3_litWithHole_15 : decode cX3_litWithHole 15 = .ok (.iload_n 1, 1) := by decide +kernel
theorem dX3_litWithHole_16 : decode cX3_litWithHole 16 = .ok (.iconst 5, 1) := by decide +kernel
theorem dX3_litWithHole_17 : decode cX3_litWithHole 17 = .ok (.imul, 1) := by decide +kernel
theorem dX3_litWithHole_18 : decode cX3_litWithHole 18 = .ok (.iaload, 1) := by decide +kernel
theorem dX3_litWithHole_19 : decode cX3_litWithHole 19 = .ok (.istore_n 3, 1) := by decide +kernel
theorem dX3_litWithHole_20 : decode cX3_litWithHole 20 = .ok (.aload_n 0, 1) := by decide +kernel
theorem dX3_litWithHole_21 : decode cX3_litWithHole 21 = .ok (.getfield 43, 3) := by decide +kernel
theorem dX3_litWithHole_24 : decode cX3_litWithHole 24 = .ok (.iload_n 1, 1) := by decide +kernel
theorem dX3_litWithHole_25 : decode cX3_litWithHole 25 = .ok (.iconst 5, 1) := by decide +kernel
theorem dX3_litWithHole_26 : decode cX3_litWithHole 26 = .ok (.imul, 1) := by decide +kernel
theorem dX3_litWithHole_27 : decode cX3_litWithHole 27 = .ok (.iconst 1, 1) := by decide +kernel
theorem dX3_litWithHole_28 : decode cX3_litWithHole 28 = .ok (.iadd, 1) := by decide +kernel
theorem dX3_litWithHole_29 : decode cX3_litWithHole 29 = .ok (.iaload, 1) := by decide +kernel
theorem dX3_litWithHole_30 : decode cX3_litWithHole 30 = .ok (.istore 4, 2) := by decide +kernel
theorem dX3_litWithHole_32 : decode cX3_litWithHole 32 = .ok (.aload_n 2, 1) := by decide +kernel
theorem dX3_litWithHole_33 : decode cX3_litWithHole 33 = .ok (.iload_n 3, 1) := by decide +kernel
theorem dX3_litWithHole_34 : decode cX3_litWithHole 34 = .ok (.dup2, 1) := by decide +kernel
theorem dX3_litWithHole_35 : decode cX3_litWithHole 35 = .ok (.iaload, 1) := by decide +kernel
theorem dX3_litWithHole_36 : decode cX3_litWithHole 36 = .ok (.iconst 1, 1) := by decide +kernel
theorem dX3_litWithHole_37 : decode cX3_litWithHole 37 = .ok (.iload 4, 2) := by decide +kernel
theorem dX3_litWithHole_39 : decode cX3_litWithHole 39 = .ok (.ishl, 1) := by decide +kernel
theorem dX3_litWithHole_40 : decode cX3_litWithHole 40 = .ok (.ior, 1) := by decide +kernel
theorem dX3_litWithHole_41 : decode cX3_litWithHole 41 = .ok (.iastore, 1) := by decide +kernel
theorem dX3_litWithHole_42 : decode cX3_litWithHole 42 = .ok (.aload_n 0, 1) := by decide +kernel
theorem dX3_litWithHole_43 : decode cX3_litWithHole 43 = .ok (.getfield 43, 3) := by decide +kernel
theorem dX3_litWithHole_46 : decode cX3_litWithHole 46 = .ok (.iload_n 1, 1) := by decide +kernel
theorem dX3_litWithHole_47 : decode cX3_litWithHole 47 = .ok (.iconst 5, 1) := by decide +kernel
theorem dX3_litWithHole_48 : decode cX3_litWithHole 48 = .ok (.imul, 1) := by decide +kernel
theorem dX3_litWithHole_49 : decode cX3_litWithHole 49 = .ok (.iconst 4, 1) := by decide +kernel
