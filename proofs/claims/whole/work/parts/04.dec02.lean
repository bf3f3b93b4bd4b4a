theorem dX7_readWant_168 : decode cX7_readWant 168 = .ok (.aload_n 0, 1) := by decide +kernel
theorem dX7_readWant_169 : decode cX7_readWant 169 = .ok (.getfield 33, 3) := by decide +kernel
theorem dX7_readWant_172 : decode cX7_readWant 172 = .ok (.getfield 181, 3) := by decide +kernel
theorem dX7_readWant_175 : decode cX7_readWant 175 = .ok (.aload_n 0, 1) := by decide +kernel
theorem dX7_readWant_176 : decode cX7_readWant 176 = .ok (.getfield 33, 3) := by decide +kernel
theorem dX7_readWant_179 : decode cX7_readWant 179 = .ok (.getfield 169, 3) := by decide +kernel
theorem dX7_readWant_182 : decode cX7_readWant 182 = .ok (.iconst 5, 1) := by decide +kernel
theorem dX7_readWant_183 : decode cX7_readWant 183 = .ok (.imul, 1) := by decide +kernel
theorem dX7_readWant_184 : decode cX7_readWant 184 = .ok (.iconst 5, 1) := by decide +kernel
theorem dX7_readWant_185 : decode cX7_readWant 185 = .ok (.invokevirtual 155, 3) := by decide +kernel
theorem dX7_readWant_188 : decode cX7_readWant 188 = .ok (.aload_n 0, 1) := by decide +kernel
theorem dX7_readWant_189 : decode cX7_readWant 189 = .ok (.getfield 33, 3) := by decide +kernel
theorem dX7_readWant_192 : decode cX7_readWant 192 = .ok (.dup, 1) := by decide +kernel
theorem dX7_readWant_193 : decode cX7_readWant 193 = .ok (.getfield 169, 3) := by decide +kernel
theorem dX7_readWant_196 : decode cX7_readWant 196 = .ok (.iconst 1, 1) := by decide +kernel
theorem dX7_readWant_197 : decode cX7_readWant 197 = .ok (.iadd, 1) := by decide +kernel
theorem dX7_readWant_198 : decode cX7_readWant 198 = .ok (.putfield 169, 3) := by decide +kernel
theorem dX7_readWant_201 : decode cX7_readWant 201 = .ok (.iconst 1, 1) := by decide +kernel
theorem dX7_readWant_202 : decode cX7_readWant 202 = .ok (.ireturn, 1) := by decide +kernel
theorem dX7_readHole_0 : decode cX7_readHole 0 = .ok (.aload_n 0, 1) := by decide +kernel
theorem dX7_readHole_1 : decode cX7_readHole 1 = .ok (.aload_n 0, 1) := by decide +kernel
theorem dX7_readHole_2 : decode cX7_readHole 2 = .ok (.getfield 33, 3) := by decide +kernel
theorem dX7_readHole_5 : decode cX7_readHole 5 = .ok (.getfield 184, 3) := by decide +kernel
theorem dX7_readHole_8 : decode cX7_readHole 8 = .ok (.bipush 8, 2) := by decide +kernel
theorem dX7_readHole_10 : decode cX7_readHole 10 = .ok (.if_icmp .ge 7, 3) := by decide +kernel
theorem dX7_readHole_13 : decode cX7_readHole 13 = .ok (.iconst 1, 1) := by decide +kernel
theorem dX7_readHole_14 : decode cX7_readHole 14 = .ok (.goto 4, 3) := by decide +kernel
theorem dX7_readHole_17 : decode cX7_readHole 17 = .ok (.iconst 0, 1) := by decide +kernel
theorem dX7_readHole_18 : decode cX7_readHole 18 = .ok (.invokevirtual 136, 3) := by decide +kernel
theorem dX7_readHole_21 : decode cX7_readHole 21 = .ok (.ifCond .eq 38, 3) := by decide +kernel
theorem dX7_readHole_24 : decode cX7_readHole 24 = .ok (.aload_n 0, 1) := by decide +kernel
theorem dX7_readHole_25 : decode cX7_readHole 25 = .ok (.ldc 100, 2) := by decide +kernel
theorem dX7_readHole_27 : decode cX7_readHole 27 = .ok (.invokevirtual 126, 3) := by decide +kernel
theorem dX7_readHole_30 : decode cX7_readHole 30 = .ok (.ifCond .eq 29, 3) := by decide +kernel
theorem dX7_readHole_33 : decode cX7_readHole 33 = .ok (.aload_n 0, 1) := by decide +kernel
theorem dX7_readHole_34 : decode cX7_readHole 34 = .ok (.invokevirtual 140, 3) := by decide +kernel
theorem dX7_readHole_37 : decode cX7_readHole 37 = .ok (.ifCond .eq 22, 3) := by decide +kernel
theorem dX7_readHole_40 : decode cX7_readHole 40 = .ok (.aload_n 0, 1) := by decide +kernel
theorem dX7_readHole_41 : decode cX7_readHole 41 = .ok (.ldc 187, 2) := by decide +kernel
theorem dX7_readHole_43 : decode cX7_readHole 43 = .ok (.invokevirtual 126, 3) := by decide +kernel
theorem dX7_readHole_46 : decode cX7_readHole 46 = .ok (.ifCond .eq 13, 3) := by decide +kernel
theorem dX7_readHole_49 : decode cX7_readHole 49 = .ok (.aload_n 0, 1) := by decide +kernel
theorem dX7_readHole_50 : decode cX7_readHole 50 = .ok (.iconst 0, 1) := by decide +kernel
theorem dX7_readHole_51 : decode cX7_readHole 51 = .ok (.bipush 99, 2) := by decide +kernel
theorem dX7_readHole_53 : decode cX7_readHole 53 = .ok (.invokevirtual 129, 3) := by decide +kernel
theorem dX7_readHole_56 : decode cX7_readHole 56 = .ok (.ifCond .ne 5, 3) := by decide +kernel
theorem dX7_readHole_59 : decode cX7_readHole 59 = .ok (.iconst 0, 1) := by decide +kernel
theorem dX7_readHole_60 : decode cX7_readHole 60 = .ok (.ireturn, 1) := by decide +kernel
theorem dX7_readHole_61 : decode cX7_readHole 61 = .ok (.aload_n 0, 1) := by decide +kernel
theorem dX7_readHole_62 : decode cX7_readHole 62 = .ok (.aload_n 0, 1) := by decide +kernel
theorem dX7_readHole_63 : decode cX7_readHole 63 = .ok (.ldc 143, 2) := by decide +kernel
theorem dX7_readHole_65 : decode cX7_readHole 65 = .ok (.invokevirtual 145, 3) := by decide +kernel
theorem dX7_readHole_68 : decode cX7_readHole 68 = .ok (.ifCond .eq 7, 3) := by decide +kernel
theorem dX7_readHole_71 : decode cX7_readHole 71 = .ok (.iconst 1, 1) := by decide +kernel
theorem dX7_readHole_72 : decode cX7_readHole 72 = .ok (.goto 4, 3) := by decide +kernel
theorem dX7_readHole_75 : decode cX7_readHole 75 = .ok (.iconst 0, 1) := by decide +kernel
theorem dX7_readHole_76 : decode cX7_readHole 76 = .ok (.invokevirtual 148, 3) := by decide +kernel
theorem dX7_readHole_79 : decode cX7_readHole 79 = .ok (.aload_n 0, 1) := by decide +kernel
theorem dX7_readHole_80 : decode cX7_readHole 80 = .ok (.aload_n 0, 1) := by decide +kernel
theorem dX7_readHole_81 : decode cX7_readHole 81 = .ok (.getfield 33, 3) := by decide +kernel
theorem dX7_readHole_84 : decode cX7_readHole 84 = .ok (.getfield 189, 3) := by decide +kernel
theorem dX7_readHole_87 : decode cX7_readHole 87 = .ok (.aload_n 0, 1) := by decide +kernel
theorem dX7_readHole_88 : decode cX7_readHole 88 = .ok (.getfield 33, 3) := by decide +kernel
theorem dX7_readHole_91 : decode cX7_readHole 91 = .ok (.getfield 184, 3) := by decide +kernel
theorem dX7_readHole_94 : decode cX7_readHole 94 = .ok (.iconst 5, 1) := by decide +kernel
theorem dX7_readHole_95 : decode cX7_readHole 95 = .ok (.imul, 1) := by decide +kernel
theorem dX7_readHole_96 : decode cX7_readHole 96 = .ok (.iconst 5, 1) := by decide +kernel
theorem dX7_readHole_97 : decode cX7_readHole 97 = .ok (.invokevirtual 155, 3) := by decide +kernel
theorem dX7_readHole_100 : decode cX7_readHole 100 = .ok (.aload_n 0, 1) := by decide +kernel
theorem dX7_readHole_101 : decode cX7_readHole 101 = .ok (.getfield 33, 3) := by decide +kernel
theorem dX7_readHole_104 : decode cX7_readHole 104 = .ok (.dup, 1) := by decide +kernel
theorem dX7_readHole_105 : decode cX7_readHole 105 = .ok (.getfield 184, 3) := by decide +kernel
theorem dX7_readHole_108 : decode cX7_readHole 108 = .ok (.iconst 1, 1) := by decide +kernel
theorem dX7_readHole_109 : decode cX7_readHole 109 = .ok (.iadd, 1) := by decide +kernel
theorem dX7_readHole_110 : decode cX7_readHole 110 = .ok (.putfield 184, 3) := by decide +kernel
theorem dX7_readHole_113 : decode cX7_readHole 113 = .ok (.iconst 1, 1) := by decide +kernel
theorem dX7_readHole_114 : decode cX7_readHole 114 = .ok (.ireturn, 1) := by decide +kernel
theorem dX7_readBurns_0 : decode cX7_readBurns 0 = .ok (.aload_n 0, 1) := by decide +kernel
theorem dX7_readBurns_1 : decode cX7_readBurns 1 = .ok (.iconst 1, 1) := by decide +kernel
theorem dX7_readBurns_2 : decode cX7_readBurns 2 = .ok (.invokevirtual 136, 3) := by decide +kernel
theorem dX7_readBurns_5 : decode cX7_readBurns 5 = .ok (.ifCond .eq 48, 3) := by decide +kernel
theorem dX7_readBurns_8 : decode cX7_readBurns 8 = .ok (.aload_n 0, 1) := by decide +kernel
theorem dX7_readBurns_9 : decode cX7_readBurns 9 = .ok (.ldc 105, 2) := by decide +kernel
theorem dX7_readBurns_11 : decode cX7_readBurns 11 = .ok (.invokevirtual 126, 3) := by decide +kernel
theorem dX7_readBurns_14 : decode cX7_readBurns 14 = .ok (.ifCond .eq 39, 3) := by decide +kernel
theorem dX7_readBurns_17 : decode cX7_readBurns 17 = .ok (.aload_n 0, 1) := by decide +kernel
theorem dX7_readBurns_18 : decode cX7_readBurns 18 = .ok (.iconst 0, 1) := by decide +kernel
theorem dX7_readBurns_19 : decode cX7_readBurns 19 = .ok (.bipush 99, 2) := by decide +kernel
theorem dX7_readBurns_21 : decode cX7_readBurns 21 = .ok (.invokevirtual 129, 3) := by decide +kernel
theorem dX7_readBurns_24 : decode cX7_readBurns 24 = .ok (.ifCond .eq 29, 3) := by decide +kernel
theorem dX7_readBurns_27 : decode cX7_readBurns 27 = .ok (.aload_n 0, 1) := by decide +kernel
theorem dX7_readBurns_28 : decode cX7_readBurns 28 = .ok (.ldc 192, 2) := by decide +kernel
theorem dX7_readBurns_30 : decode cX7_readBurns 30 = .ok (.invokevirtual 126, 3) := by decide +kernel
theorem dX7_readBurns_33 : decode cX7_readBurns 33 = .ok (.ifCond .eq 20, 3) := by decide +kernel
theorem dX7_readBurns_36 : decode cX7_readBurns 36 = .ok (.aload_n 0, 1) := by decide +kernel
theorem dX7_readBurns_37 : decode cX7_readBurns 37 = .ok (.iconst 0, 1) := by decide +kernel
theorem dX7_readBurns_38 : decode cX7_readBurns 38 = .ok (.aload_n 0, 1) := by decide +kernel
theorem dX7_readBurns_39 : decode cX7_readBurns 39 = .ok (.getfield 33, 3) := by decide +kernel
theorem dX7_readBurns_42 : decode cX7_readBurns 42 = .ok (.getfield 124, 3) := by decide +kernel
theorem dX7_readBurns_45 : decode cX7_readBurns 45 = .ok (.iconst 1, 1) := by decide +kernel
theorem dX7_readBurns_46 : decode cX7_readBurns 46 = .ok (.isub, 1) := by decide +kernel
theorem dX7_readBurns_47 : decode cX7_readBurns 47 = .ok (.invokevirtual 129, 3) := by decide +kernel
theorem dX7_readBurns_50 : decode cX7_readBurns 50 = .ok (.ifCond .ne 5, 3) := by decide +kernel
theorem dX7_readBurns_53 : decode cX7_readBurns 53 = .ok (.iconst 0, 1) := by decide +kernel
theorem dX7_readBurns_54 : decode cX7_readBurns 54 = .ok (.ireturn, 1) := by decide +kernel
theorem dX7_readBurns_55 : decode cX7_readBurns 55 = .ok (.aload_n 0, 1) := by decide +kernel
theorem dX7_readBurns_56 : decode cX7_readBurns 56 = .ok (.getfield 33, 3) := by decide +kernel
theorem dX7_readBurns_59 : decode cX7_readBurns 59 = .ok (.getfield 194, 3) := by decide +kernel
theorem dX7_readBurns_62 : decode cX7_readBurns 62 = .ok (.aload_n 0, 1) := by decide +kernel
theorem dX7_readBurns_63 : decode cX7_readBurns 63 = .ok (.getfield 37, 3) := by decide +kernel
theorem dX7_readBurns_66 : decode cX7_readBurns 66 = .ok (.iconst 1, 1) := by decide +kernel
theorem dX7_readBurns_67 : decode cX7_readBurns 67 = .ok (.iaload, 1) := by decide +kernel
theorem dX7_readBurns_68 : decode cX7_readBurns 68 = .ok (.aload_n 0, 1) := by decide +kernel
theorem dX7_readBurns_69 : decode cX7_readBurns 69 = .ok (.getfield 37, 3) := by decide +kernel
theorem dX7_readBurns_72 : decode cX7_readBurns 72 = .ok (.iconst 0, 1) := by decide +kernel
theorem dX7_readBurns_73 : decode cX7_readBurns 73 = .ok (.iaload, 1) := by decide +kernel
theorem dX7_readBurns_74 : decode cX7_readBurns 74 = .ok (.iastore, 1) := by decide +kernel
theorem dX7_readBurns_75 : decode cX7_readBurns 75 = .ok (.iconst 1, 1) := by decide +kernel
theorem dX7_readBurns_76 : decode cX7_readBurns 76 = .ok (.ireturn, 1) := by decide +kernel
theorem dX7_readHates_0 : decode cX7_readHates 0 = .ok (.aload_n 0, 1) := by decide +kernel
theorem dX7_readHates_1 : decode cX7_readHates 1 = .ok (.getfield 33, 3) := by decide +kernel
theorem dX7_readHates_4 : decode cX7_readHates 4 = .ok (.getfield 124, 3) := by decide +kernel
theorem dX7_readHates_7 : decode cX7_readHates 7 = .ok (.iconst 1, 1) := by decide +kernel
theorem dX7_readHates_8 : decode cX7_readHates 8 = .ok (.isub, 1) := by decide +kernel
theorem dX7_readHates_9 : decode cX7_readHates 9 = .ok (.istore_n 1, 1) := by decide +kernel
theorem dX7_readHates_10 : decode cX7_readHates 10 = .ok (.aload_n 0, 1) := by decide +kernel
theorem dX7_readHates_11 : decode cX7_readHates 11 = .ok (.iconst 1, 1) := by decide +kernel
theorem dX7_readHates_12 : decode cX7_readHates 12 = .ok (.invokevirtual 136, 3) := by decide +kernel
theorem dX7_readHates_15 : decode cX7_readHates 15 = .ok (.ifCond .eq 37, 3) := by decide +kernel
theorem dX7_readHates_18 : decode cX7_readHates 18 = .ok (.aload_n 0, 1) := by decide +kernel
theorem dX7_readHates_19 : decode cX7_readHates 19 = .ok (.ldc 110, 2) := by decide +kernel
theorem dX7_readHates_21 : decode cX7_readHates 21 = .ok (.invokevirtual 126, 3) := by decide +kernel
theorem dX7_readHates_24 : decode cX7_readHates 24 = .ok (.ifCond .eq 28, 3) := by decide +kernel
theorem dX7_readHates_27 : decode cX7_readHates 27 = .ok (.aload_n 0, 1) := by decide +kernel
theorem dX7_readHates_28 : decode cX7_readHates 28 = .ok (.iconst 0, 1) := by decide +kernel
theorem dX7_readHates_29 : decode cX7_readHates 29 = .ok (.iload_n 1, 1) := by decide +kernel
theorem dX7_readHates_30 : decode cX7_readHates 30 = .ok (.invokevirtual 129, 3) := by decide +kernel
theorem dX7_readHates_33 : decode cX7_readHates 33 = .ok (.ifCond .eq 19, 3) := by decide +kernel
theorem dX7_readHates_36 : decode cX7_readHates 36 = .ok (.aload_n 0, 1) := by decide +kernel
theorem dX7_readHates_37 : decode cX7_readHates 37 = .ok (.invokevirtual 196, 3) := by decide +kernel
theorem dX7_readHates_40 : decode cX7_readHates 40 = .ok (.ifCond .eq 12, 3) := by decide +kernel
theorem dX7_readHates_43 : decode cX7_readHates 43 = .ok (.aload_n 0, 1) := by decide +kernel
theorem dX7_readHates_44 : decode cX7_readHates 44 = .ok (.iconst 0, 1) := by decide +kernel
theorem dX7_readHates_45 : decode cX7_readHates 45 = .ok (.iload_n 1, 1) := by decide +kernel
theorem dX7_readHates_46 : decode cX7_readHates 46 = .ok (.invokevirtual 129, 3) := by decide +kernel
theorem dX7_readHates_49 : decode cX7_readHates 49 = .ok (.ifCond .ne 5, 3) := by decide +kernel
theorem dX7_readHates_52 : decode cX7_readHates 52 = .ok (.iconst 0, 1) := by decide +kernel
theorem dX7_readHates_53 : decode cX7_readHates 53 = .ok (.ireturn, 1) := by decide +kernel
theorem dX7_readHates_54 : decode cX7_readHates 54 = .ok (.aload_n 0, 1) := by decide +kernel
theorem dX7_readHates_55 : decode cX7_readHates 55 = .ok (.getfield 33, 3) := by decide +kernel
theorem dX7_readHates_58 : decode cX7_readHates 58 = .ok (.getfield 199, 3) := by decide +kernel
theorem dX7_readHates_61 : decode cX7_readHates 61 = .ok (.aload_n 0, 1) := by decide +kernel
theorem dX7_readHates_62 : decode cX7_readHates 62 = .ok (.getfield 37, 3) := by decide +kernel
theorem dX7_readHates_65 : decode cX7_readHates 65 = .ok (.iconst 0, 1) := by decide +kernel
theorem dX7_readHates_66 : decode cX7_readHates 66 = .ok (.iaload, 1) := by decide +kernel
theorem dX7_readHates_67 : decode cX7_readHates 67 = .ok (.dup2, 1) := by decide +kernel
theorem dX7_readHates_68 : decode cX7_readHates 68 = .ok (.iaload, 1) := by decide +kernel
theorem dX7_readHates_69 : decode cX7_readHates 69 = .ok (.iconst 1, 1) := by decide +kernel
theorem dX7_readHates_70 : decode cX7_readHates 70 = .ok (.aload_n 0, 1) := by decide +kernel
theorem dX7_readHates_71 : decode cX7_readHates 71 = .ok (.getfield 37, 3) := by decide +kernel
theorem dX7_readHates_74 : decode cX7_readHates 74 = .ok (.iconst 1, 1) := by decide +kernel
theorem dX7_readHates_75 : decode cX7_readHates 75 = .ok (.iaload, 1) := by decide +kernel
theorem dX7_readHates_76 : decode cX7_readHates 76 = .ok (.ishl, 1) := by decide +kernel
theorem dX7_readHates_77 : decode cX7_readHates 77 = .ok (.ior, 1) := by decide +kernel
theorem dX7_readHates_78 : decode cX7_readHates 78 = .ok (.iastore, 1) := by decide +kernel
theorem dX7_readHates_79 : decode cX7_readHates 79 = .ok (.iconst 1, 1) := by decide +kernel
theorem dX7_readHates_80 : decode cX7_readHates 80 = .ok (.ireturn, 1) := by decide +kernel
theorem dX7_readDear_0 : decode cX7_readDear 0 = .ok (.aload_n 0, 1) := by decide +kernel
theorem dX7_readDear_1 : decode cX7_readDear 1 = .ok (.ldc 115, 2) := by decide +kernel
theorem dX7_readDear_3 : decode cX7_readDear 3 = .ok (.invokevirtual 126, 3) := by decide +kernel
theorem dX7_readDear_6 : decode cX7_readDear 6 = .ok (.ifCond .eq 14, 3) := by decide +kernel
theorem dX7_readDear_9 : decode cX7_readDear 9 = .ok (.aload_n 0, 1) := by decide +kernel
theorem dX7_readDear_10 : decode cX7_readDear 10 = .ok (.iconst 0, 1) := by decide +kernel
theorem dX7_readDear_11 : decode cX7_readDear 11 = .ok (.sipush 999, 3) := by decide +kernel
theorem dX7_readDear_14 : decode cX7_readDear 14 = .ok (.invokevirtual 129, 3) := by decide +kernel
theorem dX7_readDear_17 : decode cX7_readDear 17 = .ok (.ifCond .ne 5, 3) := by decide +kernel
theorem dX7_readDear_20 : decode cX7_readDear 20 = .ok (.iconst 0, 1) := by decide +kernel
theorem dX7_readDear_21 : decode cX7_readDear 21 = .ok (.ireturn, 1) := by decide +kernel
theorem dX7_readDear_22 : decode cX7_readDear 22 = .ok (.aload_n 0, 1) := by decide +kernel
theorem dX7_readDear_23 : decode cX7_readDear 23 = .ok (.getfield 33, 3) := by decide +kernel
theorem dX7_readDear_26 : decode cX7_readDear 26 = .ok (.aload_n 0, 1) := by decide +kernel
theorem dX7_readDear_27 : decode cX7_readDear 27 = .ok (.getfield 37, 3) := by decide +kernel
theorem dX7_readDear_30 : decode cX7_readDear 30 = .ok (.iconst 0, 1) := by decide +kernel
theorem dX7_readDear_31 : decode cX7_readDear 31 = .ok (.iaload, 1) := by decide +kernel
theorem dX7_readDear_32 : decode cX7_readDear 32 = .ok (.putfield 201, 3) := by decide +kernel
theorem dX7_readDear_35 : decode cX7_readDear 35 = .ok (.iconst 1, 1) := by decide +kernel
theorem dX7_readDear_36 : decode cX7_readDear 36 = .ok (.ireturn, 1) := by decide +kernel
theorem dX7_mayBegin_0 : decode cX7_mayBegin 0 = .ok (.aload_n 0, 1) := by decide +kernel
theorem dX7_mayBegin_1 : decode cX7_mayBegin 1 = .ok (.getfield 33, 3) := by decide +kernel
theorem dX7_mayBegin_4 : decode cX7_mayBegin 4 = .ok (.getfield 124, 3) := by decide +kernel
theorem dX7_mayBegin_7 : decode cX7_mayBegin 7 = .ok (.ifCond .ne 9, 3) := by decide +kernel
theorem dX7_mayBegin_10 : decode cX7_mayBegin 10 = .ok (.aload_n 0, 1) := by decide +kernel
theorem dX7_mayBegin_11 : decode cX7_mayBegin 11 = .ok (.iconst 2, 1) := by decide +kernel
theorem dX7_mayBegin_12 : decode cX7_mayBegin 12 = .ok (.invokevirtual 120, 3) := by decide +kernel
theorem dX7_mayBegin_15 : decode cX7_mayBegin 15 = .ok (.ireturn, 1) := by decide +kernel
theorem dX7_mayBegin_16 : decode cX7_mayBegin 16 = .ok (.iload_n 1, 1) := by decide +kernel
theorem dX7_mayBegin_17 : decode cX7_mayBegin 17 = .ok (.ifCond .ne 11, 3) := by decide +kernel
theorem dX7_mayBegin_20 : decode cX7_mayBegin 20 = .ok (.aload_n 0, 1) := by decide +kernel
theorem dX7_mayBegin_21 : decode cX7_mayBegin 21 = .ok (.iconst 4, 1) := by decide +kernel
theorem dX7_mayBegin_22 : decode cX7_mayBegin 22 = .ok (.invokevirtual 120, 3) := by decide +kernel
theorem dX7_mayBegin_25 : decode cX7_mayBegin 25 = .ok (.ifCond .eq 7, 3) := by decide +kernel
theorem dX7_mayBegin_28 : decode cX7_mayBegin 28 = .ok (.iconst 1, 1) := by decide +kernel
theorem dX7_mayBegin_29 : decode cX7_mayBegin 29 = .ok (.goto 4, 3) := by decide +kernel
theorem dX7_mayBegin_32 : decode cX7_mayBegin 32 = .ok (.iconst 0, 1) := by decide +kernel
theorem dX7_mayBegin_33 : decode cX7_mayBegin 33 = .ok (.ireturn, 1) := by decide +kernel
theorem dX7_passage_0 : decode cX7_passage 0 = .ok (.aload_n 0, 1) := by decide +kernel
theorem dX7_passage_1 : decode cX7_passage 1 = .ok (.getfield 33, 3) := by decide +kernel
theorem dX7_passage_4 : decode cX7_passage 4 = .ok (.getfield 124, 3) := by decide +kernel
theorem dX7_passage_7 : decode cX7_passage 7 = .ok (.iconst 1, 1) := by decide +kernel
theorem dX7_passage_8 : decode cX7_passage 8 = .ok (.isub, 1) := by decide +kernel
theorem dX7_passage_9 : decode cX7_passage 9 = .ok (.istore_n 1, 1) := by decide +kernel
theorem dX7_passage_10 : decode cX7_passage 10 = .ok (.aload_n 0, 1) := by decide +kernel
theorem dX7_passage_11 : decode cX7_passage 11 = .ok (.iconst 0, 1) := by decide +kernel
theorem dX7_passage_12 : decode cX7_passage 12 = .ok (.iload_n 1, 1) := by decide +kernel
theorem dX7_passage_13 : decode cX7_passage 13 = .ok (.invokevirtual 129, 3) := by decide +kernel
theorem dX7_passage_16 : decode cX7_passage 16 = .ok (.ifCond .eq 51, 3) := by decide +kernel
theorem dX7_passage_19 : decode cX7_passage 19 = .ok (.aload_n 0, 1) := by decide +kernel
theorem dX7_passage_20 : decode cX7_passage 20 = .ok (.ldc 179, 2) := by decide +kernel
theorem dX7_passage_22 : decode cX7_passage 22 = .ok (.invokevirtual 126, 3) := by decide +kernel
theorem dX7_passage_25 : decode cX7_passage 25 = .ok (.ifCond .eq 42, 3) := by decide +kernel
theorem dX7_passage_28 : decode cX7_passage 28 = .ok (.aload_n 0, 1) := by decide +kernel
theorem dX7_passage_29 : decode cX7_passage 29 = .ok (.invokevirtual 196, 3) := by decide +kernel
theorem dX7_passage_32 : decode cX7_passage 32 = .ok (.ifCond .eq 35, 3) := by decide +kernel
theorem dX7_passage_35 : decode cX7_passage 35 = .ok (.aload_n 0, 1) := by decide +kernel
theorem dX7_passage_36 : decode cX7_passage 36 = .ok (.iconst 0, 1) := by decide +kernel
theorem dX7_passage_37 : decode cX7_passage 37 = .ok (.iload_n 1, 1) := by decide +kernel
theorem dX7_passage_38 : decode cX7_passage 38 = .ok (.invokevirtual 129, 3) := by decide +kernel
theorem dX7_passage_41 : decode cX7_passage 41 = .ok (.ifCond .eq 26, 3) := by decide +kernel
theorem dX7_passage_44 : decode cX7_passage 44 = .ok (.aload_n 0, 1) := by decide +kernel
theorem dX7_passage_45 : decode cX7_passage 45 = .ok (.ldc 203, 2) := by decide +kernel
theorem dX7_passage_47 : decode cX7_passage 47 = .ok (.invokevirtual 126, 3) := by decide +kernel
theorem dX7_passage_50 : decode cX7_passage 50 = .ok (.ifCond .eq 17, 3) := by decide +kernel
theorem dX7_passage_53 : decode cX7_passage 53 = .ok (.aload_n 0, 1) := by decide +kernel
theorem dX7_passage_54 : decode cX7_passage 54 = .ok (.iconst 1, 1) := by decide +kernel
theorem dX7_passage_55 : decode cX7_passage 55 = .ok (.bipush 100, 2) := by decide +kernel
theorem dX7_passage_57 : decode cX7_passage 57 = .ok (.invokevirtual 129, 3) := by decide +kernel
theorem dX7_passage_60 : decode cX7_passage 60 = .ok (.ifCond .eq 7, 3) := by decide +kernel
theorem dX7_passage_63 : decode cX7_passage 63 = .ok (.iconst 1, 1) := by decide +kernel
theorem dX7_passage_64 : decode cX7_passage 64 = .ok (.goto 4, 3) := by decide +kernel
theorem dX7_passage_67 : decode cX7_passage 67 = .ok (.iconst 0, 1) := by decide +kernel
theorem dX7_passage_68 : decode cX7_passage 68 = .ok (.ireturn, 1) := by decide +kernel
theorem dX7_differs_0 : decode cX7_differs 0 = .ok (.aload_n 0, 1) := by decide +kernel
theorem dX7_differs_1 : decode cX7_differs 1 = .ok (.getfield 18, 3) := by decide +kernel
theorem dX7_differs_4 : decode cX7_differs 4 = .ok (.iconst 2, 1) := by decide +kernel
theorem dX7_differs_5 : decode cX7_differs 5 = .ok (.if_icmp .ne 24, 3) := by decide +kernel
theorem dX7_differs_8 : decode cX7_differs 8 = .ok (.aload_n 0, 1) := by decide +kernel
theorem dX7_differs_9 : decode cX7_differs 9 = .ok (.getfield 27, 3) := by decide +kernel
theorem dX7_differs_12 : decode cX7_differs 12 = .ok (.aload_n 0, 1) := by decide +kernel
theorem dX7_differs_13 : decode cX7_differs 13 = .ok (.getfield 37, 3) := by decide +kernel
theorem dX7_differs_16 : decode cX7_differs 16 = .ok (.iconst 0, 1) := by decide +kernel
theorem dX7_differs_17 : decode cX7_differs 17 = .ok (.iaload, 1) := by decide +kernel
theorem dX7_differs_18 : decode cX7_differs 18 = .ok (.if_icmp .ne 11, 3) := by decide +kernel
theorem dX7_differs_21 : decode cX7_differs 21 = .ok (.aload_n 0, 1) := by decide +kernel
theorem dX7_differs_22 : decode cX7_differs 22 = .ok (.iconst 3, 1) := by decide +kernel
theorem dX7_differs_23 : decode cX7_differs 23 = .ok (.invokevirtual 120, 3) := by decide +kernel
theorem dX7_differs_26 : decode cX7_differs 26 = .ok (.ifCond .eq 7, 3) := by decide +kernel
theorem dX7_differs_29 : decode cX7_differs 29 = .ok (.iconst 1, 1) := by decide +kernel
theorem dX7_differs_30 : decode cX7_differs 30 = .ok (.goto 4, 3) := by decide +kernel
theorem dX7_differs_33 : decode cX7_differs 33 = .ok (.iconst 0, 1) := by decide +kernel
theorem dX7_differs_34 : decode cX7_differs 34 = .ok (.ireturn, 1) := by decide +kernel
theorem dX7_number_0 : decode cX7_number 0 = .ok (.aload_n 0, 1) := by decide +kernel
theorem dX7_number_1 : decode cX7_number 1 = .ok (.getfield 18, 3) := by decide +kernel
theorem dX7_number_4 : decode cX7_number 4 = .ok (.iconst 2, 1) := by decide +kernel
theorem dX7_number_5 : decode cX7_number 5 = .ok (.if_icmp .eq 9, 3) := by decide +kernel
theorem dX7_number_8 : decode cX7_number 8 = .ok (.aload_n 0, 1) := by decide +kernel
theorem dX7_number_9 : decode cX7_number 9 = .ok (.iconst 2, 1) := by decide +kernel
theorem dX7_number_10 : decode cX7_number 10 = .ok (.invokevirtual 120, 3) := by decide +kernel
theorem dX7_number_13 : decode cX7_number 13 = .ok (.ireturn, 1) := by decide +kernel
theorem dX7_number_14 : decode cX7_number 14 = .ok (.aload_n 0, 1) := by decide +kernel
theorem dX7_number_15 : decode cX7_number 15 = .ok (.getfield 27, 3) := by decide +kernel
theorem dX7_number_18 : decode cX7_number 18 = .ok (.iload_n 1, 1) := by decide +kernel
theorem dX7_number_19 : decode cX7_number 19 = .ok (.if_icmp .lt 11, 3) := by decide +kernel
theorem dX7_number_22 : decode cX7_number 22 = .ok (.aload_n 0, 1) := by decide +kernel
theorem dX7_number_23 : decode cX7_number 23 = .ok (.getfield 27, 3) := by decide +kernel
theorem dX7_number_26 : decode cX7_number 26 = .ok (.iload_n 2, 1) := by decide +kernel
theorem dX7_number_27 : decode cX7_number 27 = .ok (.if_icmp .le 9, 3) := by decide +kernel
theorem dX7_number_30 : decode cX7_number 30 = .ok (.aload_n 0, 1) := by decide +kernel
theorem dX7_number_31 : decode cX7_number 31 = .ok (.iconst 3, 1) := by decide +kernel
theorem dX7_number_32 : decode cX7_number 32 = .ok (.invokevirtual 120, 3) := by decide +kernel
theorem dX7_number_35 : decode cX7_number 35 = .ok (.ireturn, 1) := by decide +kernel
theorem dX7_number_36 : decode cX7_number 36 = .ok (.aload_n 0, 1) := by decide +kernel
theorem dX7_number_37 : decode cX7_number 37 = .ok (.aload_n 0, 1) := by decide +kernel
theorem dX7_number_38 : decode cX7_number 38 = .ok (.getfield 27, 3) := by decide +kernel
theorem dX7_number_41 : decode cX7_number 41 = .ok (.invokevirtual 148, 3) := by decide +kernel
theorem dX7_number_44 : decode cX7_number 44 = .ok (.aload_n 0, 1) := by decide +kernel
theorem dX7_number_45 : decode cX7_number 45 = .ok (.invokevirtual 57, 3) := by decide +kernel
theorem dX7_number_48 : decode cX7_number 48 = .ok (.iconst 1, 1) := by decide +kernel
theorem dX7_number_49 : decode cX7_number 49 = .ok (.ireturn, 1) := by decide +kernel
theorem dX7_pass_0 : decode cX7_pass 0 = .ok (.aload_n 0, 1) := by decide +kernel
theorem dX7_pass_1 : decode cX7_pass 1 = .ok (.aload_n 1, 1) := by decide +kernel
theorem dX7_pass_2 : decode cX7_pass 2 = .ok (.invokevirtual 78, 3) := by decide +kernel
theorem dX7_pass_5 : decode cX7_pass 5 = .ok (.ifCond .ne 9, 3) := by decide +kernel
theorem dX7_pass_8 : decode cX7_pass 8 = .ok (.aload_n 0, 1) := by decide +kernel
theorem dX7_pass_9 : decode cX7_pass 9 = .ok (.iconst 2, 1) := by decide +kernel
theorem dX7_pass_10 : decode cX7_pass 10 = .ok (.invokevirtual 120, 3) := by decide +kernel
theorem dX7_pass_13 : decode cX7_pass 13 = .ok (.ireturn, 1) := by decide +kernel
theorem dX7_pass_14 : decode cX7_pass 14 = .ok (.aload_n 0, 1) := by decide +kernel
theorem dX7_pass_15 : decode cX7_pass 15 = .ok (.invokevirtual 57, 3) := by decide +kernel
theorem dX7_pass_18 : decode cX7_pass 18 = .ok (.iconst 1, 1) := by decide +kernel
theorem dX7_pass_19 : decode cX7_pass 19 = .ok (.ireturn, 1) := by decide +kernel
theorem dX7_passIf_0 : decode cX7_passIf 0 = .ok (.aload_n 0, 1) := by decide +kernel
theorem dX7_passIf_1 : decode cX7_passIf 1 = .ok (.aload_n 1, 1) := by decide +kernel
theorem dX7_passIf_2 : decode cX7_passIf 2 = .ok (.invokevirtual 78, 3) := by decide +kernel
theorem dX7_passIf_5 : decode cX7_passIf 5 = .ok (.ifCond .ne 5, 3) := by decide +kernel
theorem dX7_passIf_8 : decode cX7_passIf 8 = .ok (.iconst 0, 1) := by decide +kernel
theorem dX7_passIf_9 : decode cX7_passIf 9 = .ok (.ireturn, 1) := by decide +kernel
theorem dX7_passIf_10 : decode cX7_passIf 10 = .ok (.aload_n 0, 1) := by decide +kernel
theorem dX7_passIf_11 : decode cX7_passIf 11 = .ok (.invokevirtual 57, 3) := by decide +kernel
theorem dX7_passIf_14 : decode cX7_passIf 14 = .ok (.iconst 1, 1) := by decide +kernel
theorem dX7_passIf_15 : decode cX7_passIf 15 = .ok (.ireturn, 1) := by decide +kernel
theorem dX7_passSign_0 : decode cX7_passSign 0 = .ok (.aload_n 0, 1) := by decide +kernel
theorem dX7_passSign_1 : decode cX7_passSign 1 = .ok (.getfield 18, 3) := by decide +kernel
theorem dX7_passSign_4 : decode cX7_passSign 4 = .ok (.iconst 3, 1) := by decide +kernel
theorem dX7_passSign_5 : decode cX7_passSign 5 = .ok (.if_icmp .eq 9, 3) := by decide +kernel
theorem dX7_passSign_8 : decode cX7_passSign 8 = .ok (.aload_n 0, 1) := by decide +kernel
theorem dX7_passSign_9 : decode cX7_passSign 9 = .ok (.iconst 2, 1) := by decide +kernel
theorem dX7_passSign_10 : decode cX7_passSign 10 = .ok (.invokevirtual 120, 3) := by decide +kernel
theorem dX7_passSign_13 : decode cX7_passSign 13 = .ok (.ireturn, 1) := by decide +kernel
theorem dX7_passSign_14 : decode cX7_passSign 14 = .ok (.aload_n 0, 1) := by decide +kernel
theorem dX7_passSign_15 : decode cX7_passSign 15 = .ok (.invokevirtual 57, 3) := by decide +kernel
theorem dX7_passSign_18 : decode cX7_passSign 18 = .ok (.iconst 1, 1) := by decide +kernel
theorem dX7_passSign_19 : decode cX7_passSign 19 = .ok (.ireturn, 1) := by decide +kernel
theorem dX7_refuse_0 : decode cX7_refuse 0 = .ok (.aload_n 0, 1) := by decide +kernel
theorem dX7_refuse_1 : decode cX7_refuse 1 = .ok (.aload_n 0, 1) := by decide +kernel
theorem dX7_refuse_2 : decode cX7_refuse 2 = .ok (.getfield 18, 3) := by decide +kernel
theorem dX7_refuse_5 : decode cX7_refuse 5 = .ok (.iconst 4, 1) := by decide +kernel
theorem dX7_refuse_6 : decode cX7_refuse 6 = .ok (.if_icmp .ne 7, 3) := by decide +kernel
theorem dX7_refuse_9 : decode cX7_refuse 9 = .ok (.iconst 1, 1) := by decide +kernel
theorem dX7_refuse_10 : decode cX7_refuse 10 = .ok (.goto 4, 3) := by decide +kernel
theorem dX7_refuse_13 : decode cX7_refuse 13 = .ok (.iload_n 1, 1) := by decide +kernel
theorem dX7_refuse_14 : decode cX7_refuse 14 = .ok (.putfield 9, 3) := by decide +kernel
theorem dX7_refuse_17 : decode cX7_refuse 17 = .ok (.aload_n 0, 1) := by decide +kernel
theorem dX7_refuse_18 : decode cX7_refuse 18 = .ok (.aload_n 0, 1) := by decide +kernel
theorem dX7_refuse_19 : decode cX7_refuse 19 = .ok (.getfield 21, 3) := by decide +kernel
theorem dX7_refuse_22 : decode cX7_refuse 22 = .ok (.putfield 15, 3) := by decide +kernel
theorem dX7_refuse_25 : decode cX7_refuse 25 = .ok (.iconst 0, 1) := by decide +kernel
theorem dX7_refuse_26 : decode cX7_refuse 26 = .ok (.ireturn, 1) := by decide +kernel
theorem dX7_tell_0 : decode cX7_tell 0 = .ok (.aload_n 0, 1) := by decide +kernel
theorem dX7_tell_1 : decode cX7_tell 1 = .ok (.getfield 41, 3) := by decide +kernel
theorem dX7_tell_4 : decode cX7_tell 4 = .ok (.aload_n 0, 1) := by decide +kernel
theorem dX7_tell_5 : decode cX7_tell 5 = .ok (.getfield 37, 3) := by decide +kernel
theorem dX7_tell_8 : decode cX7_tell 8 = .ok (.arraylength, 1) := by decide +kernel
theorem dX7_tell_9 : decode cX7_tell 9 = .ok (.if_icmp .ge 23, 3) := by decide +kernel
theorem dX7_tell_12 : decode cX7_tell 12 = .ok (.aload_n 0, 1) := by decide +kernel
theorem dX7_tell_13 : decode cX7_tell 13 = .ok (.getfield 37, 3) := by decide +kernel
theorem dX7_tell_16 : decode cX7_tell 16 = .ok (.aload_n 0, 1) := by decide +kernel
theorem dX7_tell_17 : decode cX7_tell 17 = .ok (.getfield 41, 3) := by decide +kernel
theorem dX7_tell_20 : decode cX7_tell 20 = .ok (.iload_n 1, 1) := by decide +kernel
theorem dX7_tell_21 : decode cX7_tell 21 = .ok (.iastore, 1) := by decide +kernel
theorem dX7_tell_22 : decode cX7_tell 22 = .ok (.aload_n 0, 1) := by decide +kernel
theorem dX7_tell_23 : decode cX7_tell 23 = .ok (.dup, 1) := by decide +kernel
theorem dX7_tell_24 : decode cX7_tell 24 = .ok (.getfield 41, 3) := by decide +kernel
theorem dX7_tell_27 : decode cX7_tell 27 = .ok (.iconst 1, 1) := by decide +kernel
theorem dX7_tell_28 : decode cX7_tell 28 = .ok (.iadd, 1) := by decide +kernel
theorem dX7_tell_29 : decode cX7_tell 29 = .ok (.putfield 41, 3) := by decide +kernel
theorem dX7_tell_32 : decode cX7_tell 32 = .ok (.return_, 1) := by decide +kernel
theorem dX7_keep_0 : decode cX7_keep 0 = .ok (.aload_n 0, 1) := by decide +kernel
theorem dX7_keep_1 : decode cX7_keep 1 = .ok (.getfield 37, 3) := by decide +kernel
theorem dX7_keep_4 : decode cX7_keep 4 = .ok (.iconst 0, 1) := by decide +kernel
theorem dX7_keep_5 : decode cX7_keep 5 = .ok (.aload_n 1, 1) := by decide +kernel
theorem dX7_keep_6 : decode cX7_keep 6 = .ok (.iload_n 2, 1) := by decide +kernel
theorem dX7_keep_7 : decode cX7_keep 7 = .ok (.iload_n 3, 1) := by decide +kernel
theorem dX7_keep_8 : decode cX7_keep 8 = .ok (.invokestatic 205, 3) := by decide +kernel
theorem dX7_keep_11 : decode cX7_keep 11 = .ok (.return_, 1) := by decide +kernel
theorem dX7_advance_0 : decode cX7_advance 0 = .ok (.aload_n 0, 1) := by decide +kernel
theorem dX7_advance_1 : decode cX7_advance 1 = .ok (.getfield 24, 3) := by decide +kernel
theorem dX7_advance_4 : decode cX7_advance 4 = .ok (.aload_n 0, 1) := by decide +kernel
theorem dX7_advance_5 : decode cX7_advance 5 = .ok (.getfield 54, 3) := by decide +kernel
theorem dX7_advance_8 : decode cX7_advance 8 = .ok (.if_icmp .ge 44, 3) := by decide +kernel
theorem dX7_advance_11 : decode cX7_advance 11 = .ok (.aload_n 0, 1) := by decide +kernel
theorem dX7_advance_12 : decode cX7_advance 12 = .ok (.getfield 44, 3) := by decide +kernel
theorem dX7_advance_15 : decode cX7_advance 15 = .ok (.aload_n 0, 1) := by decide +kernel
theorem dX7_advance_16 : decode cX7_advance 16 = .ok (.getfield 24, 3) := by decide +kernel
theorem dX7_advance_19 : decode cX7_advance 19 = .ok (.baload, 1) := by decide +kernel
theorem dX7_advance_20 : decode cX7_advance 20 = .ok (.bipush 10, 2) := by decide +kernel
theorem dX7_advance_22 : decode cX7_advance 22 = .ok (.if_icmp .eq 17, 3) := by decide +kernel
theorem dX7_advance_25 : decode cX7_advance 25 = .ok (.aload_n 0, 1) := by decide +kernel
theorem dX7_advance_26 : decode cX7_advance 26 = .ok (.getfield 44, 3) := by decide +kernel
theorem dX7_advance_29 : decode cX7_advance 29 = .ok (.aload_n 0, 1) := by decide +kernel
theorem dX7_advance_30 : decode cX7_advance 30 = .ok (.getfield 24, 3) := by decide +kernel
theorem dX7_advance_33 : decode cX7_advance 33 = .ok (.baload, 1) := by decide +kernel
theorem dX7_advance_34 : decode cX7_advance 34 = .ok (.bipush 32, 2) := by decide +kernel
theorem dX7_advance_36 : decode cX7_advance 36 = .ok (.if_icmp .ne 16, 3) := by decide +kernel
theorem dX7_advance_39 : decode cX7_advance 39 = .ok (.aload_n 0, 1) := by decide +kernel
theorem dX7_advance_40 : decode cX7_advance 40 = .ok (.dup, 1) := by decide +kernel
theorem dX7_advance_41 : decode cX7_advance 41 = .ok (.getfield 24, 3) := by decide +kernel
theorem dX7_advance_44 : decode cX7_advance 44 = .ok (.iconst 1, 1) := by decide +kernel
theorem dX7_advance_45 : decode cX7_advance 45 = .ok (.iadd, 1) := by decide +kernel
theorem dX7_advance_46 : decode cX7_advance 46 = .ok (.putfield 24, 3) := by decide +kernel
theorem dX7_advance_49 : decode cX7_advance 49 = .ok (.goto (-49), 3) := by decide +kernel
theorem dX7_advance_52 : decode cX7_advance 52 = .ok (.aload_n 0, 1) := by decide +kernel
theorem dX7_advance_53 : decode cX7_advance 53 = .ok (.aload_n 0, 1) := by decide +kernel
theorem dX7_advance_54 : decode cX7_advance 54 = .ok (.getfield 24, 3) := by decide +kernel
theorem dX7_advance_57 : decode cX7_advance 57 = .ok (.putfield 21, 3) := by decide +kernel
theorem dX7_advance_60 : decode cX7_advance 60 = .ok (.aload_n 0, 1) := by decide +kernel
theorem dX7_advance_61 : decode cX7_advance 61 = .ok (.iconst 0, 1) := by decide +kernel
theorem dX7_advance_62 : decode cX7_advance 62 = .ok (.putfield 27, 3) := by decide +kernel
theorem dX7_advance_65 : decode cX7_advance 65 = .ok (.aload_n 0, 1) := by decide +kernel
theorem dX7_advance_66 : decode cX7_advance 66 = .ok (.getfield 24, 3) := by decide +kernel
theorem dX7_advance_69 : decode cX7_advance 69 = .ok (.aload_n 0, 1) := by decide +kernel
theorem dX7_advance_70 : decode cX7_advance 70 = .ok (.getfield 54, 3) := by decide +kernel
theorem dX7_advance_73 : decode cX7_advance 73 = .ok (.if_icmp .ge 49, 3) := by decide +kernel
theorem dX7_advance_76 : decode cX7_advance 76 = .ok (.aload_n 0, 1) := by decide +kernel
theorem dX7_advance_77 : decode cX7_advance 77 = .ok (.getfield 44, 3) := by decide +kernel
theorem dX7_advance_80 : decode cX7_advance 80 = .ok (.aload_n 0, 1) := by decide +kernel
theorem dX7_advance_81 : decode cX7_advance 81 = .ok (.getfield 24, 3) := by decide +kernel
theorem dX7_advance_84 : decode cX7_advance 84 = .ok (.baload, 1) := by decide +kernel
theorem dX7_advance_85 : decode cX7_advance 85 = .ok (.bipush 97, 2) := by decide +kernel
theorem dX7_advance_87 : decode cX7_advance 87 = .ok (.if_icmp .lt 35, 3) := by decide +kernel
theorem dX7_advance_90 : decode cX7_advance 90 = .ok (.aload_n 0, 1) := by decide +kernel
theorem dX7_advance_91 : decode cX7_advance 91 = .ok (.getfield 44, 3) := by decide +kernel
theorem dX7_advance_94 : decode cX7_advance 94 = .ok (.aload_n 0, 1) := by decide +kernel
theorem dX7_advance_95 : decode cX7_advance 95 = .ok (.getfield 24, 3) := by decide +kernel
theorem dX7_advance_98 : decode cX7_advance 98 = .ok (.baload, 1) := by decide +kernel
theorem dX7_advance_99 : decode cX7_advance 99 = .ok (.bipush 122, 2) := by decide +kernel
theorem dX7_advance_101 : decode cX7_advance 101 = .ok (.if_icmp .gt 21, 3) := by decide +kernel
theorem dX7_advance_104 : decode cX7_advance 104 = .ok (.aload_n 0, 1) := by decide +kernel
theorem dX7_advance_105 : decode cX7_advance 105 = .ok (.iconst 1, 1) := by decide +kernel
theorem dX7_advance_106 : decode cX7_advance 106 = .ok (.putfield 18, 3) := by decide +kernel
theorem dX7_advance_109 : decode cX7_advance 109 = .ok (.aload_n 0, 1) := by decide +kernel
theorem dX7_advance_110 : decode cX7_advance 110 = .ok (.dup, 1) := by decide +kernel
theorem dX7_advance_111 : decode cX7_advance 111 = .ok (.getfield 24, 3) := by decide +kernel
theorem dX7_advance_114 : decode cX7_advance 114 = .ok (.iconst 1, 1) := by decide +kernel
theorem dX7_advance_115 : decode cX7_advance 115 = .ok (.iadd, 1) := by decide +kernel
theorem dX7_advance_116 : decode cX7_advance 116 = .ok (.putfield 24, 3) := by decide +kernel
theorem dX7_advance_119 : decode cX7_advance 119 = .ok (.goto (-54), 3) := by decide +kernel
theorem dX7_advance_122 : decode cX7_advance 122 = .ok (.aload_n 0, 1) := by decide +kernel
theorem dX7_advance_123 : decode cX7_advance 123 = .ok (.getfield 24, 3) := by decide +kernel
theorem dX7_advance_126 : decode cX7_advance 126 = .ok (.aload_n 0, 1) := by decide +kernel
theorem dX7_advance_127 : decode cX7_advance 127 = .ok (.getfield 21, 3) := by decide +kernel
theorem dX7_advance_130 : decode cX7_advance 130 = .ok (.if_icmp .le 4, 3) := by decide +kernel
theorem dX7_advance_133 : decode cX7_advance 133 = .ok (.return_, 1) := by decide +kernel
theorem dX7_advance_134 : decode cX7_advance 134 = .ok (.aload_n 0, 1) := by decide +kernel
theorem dX7_advance_135 : decode cX7_advance 135 = .ok (.getfield 24, 3) := by decide +kernel
theorem dX7_advance_138 : decode cX7_advance 138 = .ok (.aload_n 0, 1) := by decide +kernel
theorem dX7_advance_139 : decode cX7_advance 139 = .ok (.getfield 54, 3) := by decide +kernel
theorem dX7_advance_142 : decode cX7_advance 142 = .ok (.if_icmp .ge 107, 3) := by decide +kernel
theorem dX7_advance_145 : decode cX7_advance 145 = .ok (.aload_n 0, 1) := by decide +kernel
theorem dX7_advance_146 : decode cX7_advance 146 = .ok (.getfield 44, 3) := by decide +kernel
theorem dX7_advance_149 : decode cX7_advance 149 = .ok (.aload_n 0, 1) := by decide +kernel
theorem dX7_advance_150 : decode cX7_advance 150 = .ok (.getfield 24, 3) := by decide +kernel
theorem dX7_advance_153 : decode cX7_advance 153 = .ok (.baload, 1) := by decide +kernel
theorem dX7_advance_154 : decode cX7_advance 154 = .ok (.bipush 48, 2) := by decide +kernel
theorem dX7_advance_156 : decode cX7_advance 156 = .ok (.if_icmp .lt 93, 3) := by decide +kernel
theorem dX7_advance_159 : decode cX7_advance 159 = .ok (.aload_n 0, 1) := by decide +kernel
theorem dX7_advance_160 : decode cX7_advance 160 = .ok (.getfield 44, 3) := by decide +kernel
theorem dX7_advance_163 : decode cX7_advance 163 = .ok (.aload_n 0, 1) := by decide +kernel
theorem dX7_advance_164 : decode cX7_advance 164 = .ok (.getfield 24, 3) := by decide +kernel
theorem dX7_advance_167 : decode cX7_advance 167 = .ok (.baload, 1) := by decide +kernel
theorem dX7_advance_168 : decode cX7_advance 168 = .ok (.bipush 57, 2) := by decide +kernel
theorem dX7_advance_170 : decode cX7_advance 170 = .ok (.if_icmp .gt 79, 3) := by decide +kernel
theorem dX7_advance_173 : decode cX7_advance 173 = .ok (.aload_n 0, 1) := by decide +kernel
theorem dX7_advance_174 : decode cX7_advance 174 = .ok (.aload_n 0, 1) := by decide +kernel
theorem dX7_advance_175 : decode cX7_advance 175 = .ok (.getfield 24, 3) := by decide +kernel
theorem dX7_advance_178 : decode cX7_advance 178 = .ok (.aload_n 0, 1) := by decide +kernel
theorem dX7_advance_179 : decode cX7_advance 179 = .ok (.getfield 21, 3) := by decide +kernel
theorem dX7_advance_182 : decode cX7_advance 182 = .ok (.isub, 1) := by decide +kernel
theorem dX7_advance_183 : decode cX7_advance 183 = .ok (.iconst 5, 1) := by decide +kernel
theorem dX7_advance_184 : decode cX7_advance 184 = .ok (.if_icmp .ge 7, 3) := by decide +kernel
theorem dX7_advance_187 : decode cX7_advance 187 = .ok (.iconst 2, 1) := by decide +kernel
theorem dX7_advance_188 : decode cX7_advance 188 = .ok (.goto 4, 3) := by decide +kernel
theorem dX7_advance_191 : decode cX7_advance 191 = .ok (.iconst 4, 1) := by decide +kernel
theorem dX7_advance_192 : decode cX7_advance 192 = .ok (.putfield 18, 3) := by decide +kernel
theorem dX7_advance_195 : decode cX7_advance 195 = .ok (.aload_n 0, 1) := by decide +kernel
theorem dX7_advance_196 : decode cX7_advance 196 = .ok (.aload_n 0, 1) := by decide +kernel
theorem dX7_advance_197 : decode cX7_advance 197 = .ok (.getfield 24, 3) := by decide +kernel
theorem dX7_advance_200 : decode cX7_advance 200 = .ok (.aload_n 0, 1) := by decide +kernel
theorem dX7_advance_201 : decode cX7_advance 201 = .ok (.getfield 21, 3) := by decide +kernel
theorem dX7_advance_204 : decode cX7_advance 204 = .ok (.isub, 1) := by decide +kernel
theorem dX7_advance_205 : decode cX7_advance 205 = .ok (.iconst 5, 1) := by decide +kernel
theorem dX7_advance_206 : decode cX7_advance 206 = .ok (.if_icmp .ge 26, 3) := by decide +kernel
theorem dX7_advance_209 : decode cX7_advance 209 = .ok (.aload_n 0, 1) := by decide +kernel
theorem dX7_advance_210 : decode cX7_advance 210 = .ok (.getfield 27, 3) := by decide +kernel
theorem dX7_advance_213 : decode cX7_advance 213 = .ok (.bipush 10, 2) := by decide +kernel
theorem dX7_advance_215 : decode cX7_advance 215 = .ok (.imul, 1) := by decide +kernel
theorem dX7_advance_216 : decode cX7_advance 216 = .ok (.aload_n 0, 1) := by decide +kernel
theorem dX7_advance_217 : decode cX7_advance 217 = .ok (.getfield 44, 3) := by decide +kernel
theorem dX7_advance_220 : decode cX7_advance 220 = .ok (.aload_n 0, 1) := by decide +kernel
theorem dX7_advance_221 : decode cX7_advance 221 = .ok (.getfield 24, 3) := by decide +kernel
theorem dX7_advance_224 : decode cX7_advance 224 = .ok (.baload, 1) := by decide +kernel
theorem dX7_advance_225 : decode cX7_advance 225 = .ok (.bipush 48, 2) := by decide +kernel
theorem dX7_advance_227 : decode cX7_advance 227 = .ok (.isub, 1) := by decide +kernel
theorem dX7_advance_228 : decode cX7_advance 228 = .ok (.iadd, 1) := by decide +kernel
theorem dX7_advance_229 : decode cX7_advance 229 = .ok (.goto 4, 3) := by decide +kernel
theorem dX7_advance_232 : decode cX7_advance 232 = .ok (.iconst 0, 1) := by decide +kernel
theorem dX7_advance_233 : decode cX7_advance 233 = .ok (.putfield 27, 3) := by decide +kernel
theorem dX7_advance_236 : decode cX7_advance 236 = .ok (.aload_n 0, 1) := by decide +kernel
theorem dX7_advance_237 : decode cX7_advance 237 = .ok (.dup, 1) := by decide +kernel
theorem dX7_advance_238 : decode cX7_advance 238 = .ok (.getfield 24, 3) := by decide +kernel
theorem dX7_advance_241 : decode cX7_advance 241 = .ok (.iconst 1, 1) := by decide +kernel
theorem dX7_advance_242 : decode cX7_advance 242 = .ok (.iadd, 1) := by decide +kernel
theorem dX7_advance_243 : decode cX7_advance 243 = .ok (.putfield 24, 3) := by decide +kernel
theorem dX7_advance_246 : decode cX7_advance 246 = .ok (.goto (-112), 3) := by decide +kernel
theorem dX7_advance_249 : decode cX7_advance 249 = .ok (.aload_n 0, 1) := by decide +kernel
theorem dX7_advance_250 : decode cX7_advance 250 = .ok (.getfield 24, 3) := by decide +kernel
theorem dX7_advance_253 : decode cX7_advance 253 = .ok (.aload_n 0, 1) := by decide +kernel
theorem dX7_advance_254 : decode cX7_advance 254 = .ok (.getfield 21, 3) := by decide +kernel
theorem dX7_advance_257 : decode cX7_advance 257 = .ok (.if_icmp .le 4, 3) := by decide +kernel
theorem dX7_advance_260 : decode cX7_advance 260 = .ok (.return_, 1) := by decide +kernel
theorem dX7_advance_261 : decode cX7_advance 261 = .ok (.aload_n 0, 1) := by decide +kernel
theorem dX7_advance_262 : decode cX7_advance 262 = .ok (.iconst 0, 1) := by decide +kernel
theorem dX7_advance_263 : decode cX7_advance 263 = .ok (.putfield 18, 3) := by decide +kernel
theorem dX7_advance_266 : decode cX7_advance 266 = .ok (.aload_n 0, 1) := by decide +kernel
theorem dX7_advance_267 : decode cX7_advance 267 = .ok (.getfield 24, 3) := by decide +kernel
theorem dX7_advance_270 : decode cX7_advance 270 = .ok (.aload_n 0, 1) := by decide +kernel
theorem dX7_advance_271 : decode cX7_advance 271 = .ok (.getfield 54, 3) := by decide +kernel
theorem dX7_advance_274 : decode cX7_advance 274 = .ok (.if_icmp .ge 36, 3) := by decide +kernel
theorem dX7_advance_277 : decode cX7_advance 277 = .ok (.aload_n 0, 1) := by decide +kernel
theorem dX7_advance_278 : decode cX7_advance 278 = .ok (.aload_n 0, 1) := by decide +kernel
theorem dX7_advance_279 : decode cX7_advance 279 = .ok (.getfield 44, 3) := by decide +kernel
theorem dX7_advance_282 : decode cX7_advance 282 = .ok (.aload_n 0, 1) := by decide +kernel
theorem dX7_advance_283 : decode cX7_advance 283 = .ok (.getfield 24, 3) := by decide +kernel
theorem dX7_advance_286 : decode cX7_advance 286 = .ok (.baload, 1) := by decide +kernel
theorem dX7_advance_287 : decode cX7_advance 287 = .ok (.bipush 59, 2) := by decide +kernel
theorem dX7_advance_289 : decode cX7_advance 289 = .ok (.if_icmp .ne 7, 3) := by decide +kernel
theorem dX7_advance_292 : decode cX7_advance 292 = .ok (.iconst 3, 1) := by decide +kernel
theorem dX7_advance_293 : decode cX7_advance 293 = .ok (.goto 4, 3) := by decide +kernel
theorem dX7_advance_296 : decode cX7_advance 296 = .ok (.iconst 4, 1) := by decide +kernel
theorem dX7_advance_297 : decode cX7_advance 297 = .ok (.putfield 18, 3) := by decide +kernel
theorem dX7_advance_300 : decode cX7_advance 300 = .ok (.aload_n 0, 1) := by decide +kernel
theorem dX7_advance_301 : decode cX7_advance 301 = .ok (.dup, 1) := by decide +kernel
theorem dX7_advance_302 : decode cX7_advance 302 = .ok (.getfield 24, 3) := by decide +kernel
theorem dX7_advance_305 : decode cX7_advance 305 = .ok (.iconst 1, 1) := by decide +kernel
theorem dX7_advance_306 : decode cX7_advance 306 = .ok (.iadd, 1) := by decide +kernel
theorem dX7_advance_307 : decode cX7_advance 307 = .ok (.putfield 24, 3) := by decide +kernel
theorem dX7_advance_310 : decode cX7_advance 310 = .ok (.return_, 1) := by decide +kernel
theorem dX7_isWord_0 : decode cX7_isWord 0 = .ok (.aload_n 0, 1) := by decide +kernel
theorem dX7_isWord_1 : decode cX7_isWord 1 = .ok (.getfield 18, 3) := by decide +kernel
theorem dX7_isWord_4 : decode cX7_isWord 4 = .ok (.iconst 1, 1) := by decide +kernel
theorem dX7_isWord_5 : decode cX7_isWord 5 = .ok (.if_icmp .ne 19, 3) := by decide +kernel
theorem dX7_isWord_8 : decode cX7_isWord 8 = .ok (.aload_n 0, 1) := by decide +kernel
theorem dX7_isWord_9 : decode cX7_isWord 9 = .ok (.getfield 24, 3) := by decide +kernel
theorem dX7_isWord_12 : decode cX7_isWord 12 = .ok (.aload_n 0, 1) := by decide +kernel
theorem dX7_isWord_13 : decode cX7_isWord 13 = .ok (.getfield 21, 3) := by decide +kernel
theorem dX7_isWord_16 : decode cX7_isWord 16 = .ok (.isub, 1) := by decide +kernel
theorem dX7_isWord_17 : decode cX7_isWord 17 = .ok (.aload_n 1, 1) := by decide +kernel
theorem dX7_isWord_18 : decode cX7_isWord 18 = .ok (.invokevirtual 211, 3) := by decide +kernel
theorem dX7_isWord_21 : decode cX7_isWord 21 = .ok (.if_icmp .eq 5, 3) := by decide +kernel
theorem dX7_isWord_24 : decode cX7_isWord 24 = .ok (.iconst 0, 1) := by decide +kernel
theorem dX7_isWord_25 : decode cX7_isWord 25 = .ok (.ireturn, 1) := by decide +kernel
theorem dX7_isWord_26 : decode cX7_isWord 26 = .ok (.iconst 0, 1) := by decide +kernel
theorem dX7_isWord_27 : decode cX7_isWord 27 = .ok (.istore_n 2, 1) := by decide +kernel
theorem dX7_isWord_28 : decode cX7_isWord 28 = .ok (.iload_n 2, 1) := by decide +kernel
theorem dX7_isWord_29 : decode cX7_isWord 29 = .ok (.aload_n 1, 1) := by decide +kernel
theorem dX7_isWord_30 : decode cX7_isWord 30 = .ok (.invokevirtual 211, 3) := by decide +kernel
theorem dX7_isWord_33 : decode cX7_isWord 33 = .ok (.if_icmp .ge 30, 3) := by decide +kernel
theorem dX7_isWord_36 : decode cX7_isWord 36 = .ok (.aload_n 0, 1) := by decide +kernel
theorem dX7_isWord_37 : decode cX7_isWord 37 = .ok (.getfield 44, 3) := by decide +kernel
theorem dX7_isWord_40 : decode cX7_isWord 40 = .ok (.aload_n 0, 1) := by decide +kernel
theorem dX7_isWord_41 : decode cX7_isWord 41 = .ok (.getfield 21, 3) := by decide +kernel
theorem dX7_isWord_44 : decode cX7_isWord 44 = .ok (.iload_n 2, 1) := by decide +kernel
theorem dX7_isWord_45 : decode cX7_isWord 45 = .ok (.iadd, 1) := by decide +kernel
theorem dX7_isWord_46 : decode cX7_isWord 46 = .ok (.baload, 1) := by decide +kernel
theorem dX7_isWord_47 : decode cX7_isWord 47 = .ok (.aload_n 1, 1) := by decide +kernel
theorem dX7_isWord_48 : decode cX7_isWord 48 = .ok (.iload_n 2, 1) := by decide +kernel
theorem dX7_isWord_49 : decode cX7_isWord 49 = .ok (.invokevirtual 216, 3) := by decide +kernel
theorem dX7_isWord_52 : decode cX7_isWord 52 = .ok (.if_icmp .eq 5, 3) := by decide +kernel
theorem dX7_isWord_55 : decode cX7_isWord 55 = .ok (.iconst 0, 1) := by decide +kernel
theorem dX7_isWord_56 : decode cX7_isWord 56 = .ok (.ireturn, 1) := by decide +kernel
theorem dX7_isWord_57 : decode cX7_isWord 57 = .ok (.iinc 2 1, 3) := by decide +kernel
theorem dX7_isWord_60 : decode cX7_isWord 60 = .ok (.goto (-32), 3) := by decide +kernel
theorem dX7_isWord_63 : decode cX7_isWord 63 = .ok (.iconst 1, 1) := by decide +kernel
theorem dX7_isWord_64 : decode cX7_isWord 64 = .ok (.ireturn, 1) := by decide +kernel
theorem dX8_init_0 : decode cX8_init 0 = .ok (.aload_n 0, 1) := by decide +kernel
theorem dX8_init_1 : decode cX8_init 1 = .ok (.invokespecial 3, 3) := by decide +kernel
theorem dX8_init_4 : decode cX8_init 4 = .ok (.aload_n 0, 1) := by decide +kernel
theorem dX8_init_5 : decode cX8_init 5 = .ok (.bipush 24, 2) := by decide +kernel
theorem dX8_init_7 : decode cX8_init 7 = .ok (.newarray .int, 2) := by decide +kernel
theorem dX8_init_9 : decode cX8_init 9 = .ok (.putfield 9, 3) := by decide +kernel
theorem dX8_init_12 : decode cX8_init 12 = .ok (.aload_n 0, 1) := by decide +kernel
theorem dX8_init_13 : decode cX8_init 13 = .ok (.iconst 0, 1) := by decide +kernel
theorem dX8_init_14 : decode cX8_init 14 = .ok (.putfield 15, 3) := by decide +kernel
theorem dX8_init_17 : decode cX8_init 17 = .ok (.aload_n 0, 1) := by decide +kernel
theorem dX8_init_18 : decode cX8_init 18 = .ok (.aconst_null, 1) := by decide +kernel
theorem dX8_init_19 : decode cX8_init 19 = .ok (.putfield 19, 3) := by decide +kernel
theorem dX8_init_22 : decode cX8_init 22 = .ok (.aload_n 0, 1) := by decide +kernel
theorem dX8_init_23 : decode cX8_init 23 = .ok (.iconst (-1), 1) := by decide +kernel
theorem dX8_init_24 : decode cX8_init 24 = .ok (.putfield 23, 3) := by decide +kernel
theorem dX8_init_27 : decode cX8_init 27 = .ok (.aload_n 0, 1) := by decide +kernel
theorem dX8_init_28 : decode cX8_init 28 = .ok (.iconst (-1), 1) := by decide +kernel
theorem dX8_init_29 : decode cX8_init 29 = .ok (.putfield 26, 3) := by decide +kernel
theorem dX8_init_32 : decode cX8_init 32 = .ok (.aload_n 0, 1) := by decide +kernel
theorem dX8_init_33 : decode cX8_init 33 = .ok (.iconst 1, 1) := by decide +kernel
theorem dX8_init_34 : decode cX8_init 34 = .ok (.iload_n 1, 1) := by decide +kernel
theorem dX8_init_35 : decode cX8_init 35 = .ok (.bipush 12, 2) := by decide +kernel
theorem dX8_init_37 : decode cX8_init 37 = .ok (.invokestatic 29, 3) := by decide +kernel
theorem dX8_init_40 : decode cX8_init 40 = .ok (.invokestatic 35, 3) := by decide +kernel
theorem dX8_init_43 : decode cX8_init 43 = .ok (.putfield 38, 3) := by decide +kernel
theorem dX8_init_46 : decode cX8_init 46 = .ok (.aload_n 0, 1) := by decide +kernel
theorem dX8_init_47 : decode cX8_init 47 = .ok (.aload_n 0, 1) := by decide +kernel
theorem dX8_init_48 : decode cX8_init 48 = .ok (.getfield 38, 3) := by decide +kernel
theorem dX8_init_51 : decode cX8_init 51 = .ok (.aload_n 0, 1) := by decide +kernel
theorem dX8_init_52 : decode cX8_init 52 = .ok (.getfield 38, 3) := by decide +kernel
theorem dX8_init_55 : decode cX8_init 55 = .ok (.ishl, 1) := by decide +kernel
theorem dX8_init_56 : decode cX8_init 56 = .ok (.newarray .int, 2) := by decide +kernel
theorem dX8_init_58 : decode cX8_init 58 = .ok (.putfield 41, 3) := by decide +kernel
theorem dX8_init_61 : decode cX8_init 61 = .ok (.aload_n 0, 1) := by decide +kernel
theorem dX8_init_62 : decode cX8_init 62 = .ok (.aload_n 0, 1) := by decide +kernel
theorem dX8_init_63 : decode cX8_init 63 = .ok (.getfield 38, 3) := by decide +kernel
theorem dX8_init_66 : decode cX8_init 66 = .ok (.aload_n 0, 1) := by decide +kernel
theorem dX8_init_67 : decode cX8_init 67 = .ok (.getfield 38, 3) := by decide +kernel
theorem dX8_init_70 : decode cX8_init 70 = .ok (.ishl, 1) := by decide +kernel
theorem dX8_init_71 : decode cX8_init 71 = .ok (.newarray .int, 2) := by decide +kernel
theorem dX8_init_73 : decode cX8_init 73 = .ok (.putfield 44, 3) := by decide +kernel
theorem dX8_init_76 : decode cX8_init 76 = .ok (.return_, 1) := by decide +kernel
theorem dX8_stepsFrom_0 : decode cX8_stepsFrom 0 = .ok (.aload_n 0, 1) := by decide +kernel
theorem dX8_stepsFrom_1 : decode cX8_stepsFrom 1 = .ok (.getfield 19, 3) := by decide +kernel
theorem dX8_stepsFrom_4 : decode cX8_stepsFrom 4 = .ok (.aload_n 1, 1) := by decide +kernel
theorem dX8_stepsFrom_5 : decode cX8_stepsFrom 5 = .ok (.if_acmp .ne 11, 3) := by decide +kernel
theorem dX8_stepsFrom_8 : decode cX8_stepsFrom 8 = .ok (.aload_n 0, 1) := by decide +kernel
theorem dX8_stepsFrom_9 : decode cX8_stepsFrom 9 = .ok (.getfield 23, 3) := by decide +kernel
theorem dX8_stepsFrom_12 : decode cX8_stepsFrom 12 = .ok (.iload_n 2, 1) := by decide +kernel
theorem dX8_stepsFrom_13 : decode cX8_stepsFrom 13 = .ok (.if_icmp .eq 23, 3) := by decide +kernel
theorem dX8_stepsFrom_16 : decode cX8_stepsFrom 16 = .ok (.aload_n 0, 1) := by decide +kernel
theorem dX8_stepsFrom_17 : decode cX8_stepsFrom 17 = .ok (.aload_n 1, 1) := by decide +kernel
theorem dX8_stepsFrom_18 : decode cX8_stepsFrom 18 = .ok (.putfield 19, 3) := by decide +kernel
theorem dX8_stepsFrom_21 : decode cX8_stepsFrom 21 = .ok (.aload_n 0, 1) := by decide +kernel
theorem dX8_stepsFrom_22 : decode cX8_stepsFrom 22 = .ok (.iload_n 2, 1) := by decide +kernel
theorem dX8_stepsFrom_23 : decode cX8_stepsFrom 23 = .ok (.putfield 23, 3) := by decide +kernel
theorem dX8_stepsFrom_26 : decode cX8_stepsFrom 26 = .ok (.aload_n 0, 1) := by decide +kernel
theorem dX8_stepsFrom_27 : decode cX8_stepsFrom 27 = .ok (.aload_n 0, 1) := by decide +kernel
theorem dX8_stepsFrom_28 : decode cX8_stepsFrom 28 = .ok (.aload_n 1, 1) := by decide +kernel
theorem dX8_stepsFrom_29 : decode cX8_stepsFrom 29 = .ok (.iload_n 2, 1) := by decide +kernel
theorem dX8_stepsFrom_30 : decode cX8_stepsFrom 30 = .ok (.invokevirtual 47, 3) := by decide +kernel
theorem dX8_stepsFrom_33 : decode cX8_stepsFrom 33 = .ok (.putfield 26, 3) := by decide +kernel
theorem dX8_stepsFrom_36 : decode cX8_stepsFrom 36 = .ok (.aload_n 0, 1) := by decide +kernel
theorem dX8_stepsFrom_37 : decode cX8_stepsFrom 37 = .ok (.getfield 26, 3) := by decide +kernel
theorem dX8_stepsFrom_40 : decode cX8_stepsFrom 40 = .ok (.ireturn, 1) := by decide +kernel
theorem dX8_search_0 : decode cX8_search 0 = .ok (.aload_n 1, 1) := by decide +kernel
theorem dX8_search_1 : decode cX8_search 1 = .ok (.iload_n 2, 1) := by decide +kernel
theorem dX8_search_2 : decode cX8_search 2 = .ok (.invokestatic 51, 3) := by decide +kernel
theorem dX8_search_5 : decode cX8_search 5 = .ok (.ifCond .ne 5, 3) := by decide +kernel
theorem dX8_search_8 : decode cX8_search 8 = .ok (.iconst (-1), 1) := by decide +kernel
theorem dX8_search_9 : decode cX8_search 9 = .ok (.ireturn, 1) := by decide +kernel
theorem dX8_search_10 : decode cX8_search 10 = .ok (.aload_n 0, 1) := by decide +kernel
theorem dX8_search_11 : decode cX8_search 11 = .ok (.aload_n 1, 1) := by decide +kernel
theorem dX8_search_12 : decode cX8_search 12 = .ok (.invokevirtual 55, 3) := by decide +kernel
theorem dX8_search_15 : decode cX8_search 15 = .ok (.iload_n 2, 1) := by decide +kernel
theorem dX8_search_16 : decode cX8_search 16 = .ok (.invokevirtual 61, 3) := by decide +kernel
theorem dX8_search_19 : decode cX8_search 19 = .ok (.istore_n 3, 1) := by decide +kernel
theorem dX8_search_20 : decode cX8_search 20 = .ok (.aload_n 0, 1) := by decide +kernel
theorem dX8_search_21 : decode cX8_search 21 = .ok (.iconst 0, 1) := by decide +kernel
theorem dX8_search_22 : decode cX8_search 22 = .ok (.putfield 15, 3) := by decide +kernel
theorem dX8_search_25 : decode cX8_search 25 = .ok (.aload_n 0, 1) := by decide +kernel
theorem dX8_search_26 : decode cX8_search 26 = .ok (.aload_n 0, 1) := by decide +kernel
theorem dX8_search_27 : decode cX8_search 27 = .ok (.aload_n 1, 1) := by decide +kernel
theorem dX8_search_28 : decode cX8_search 28 = .ok (.getfield 64, 3) := by decide +kernel
theorem dX8_search_31 : decode cX8_search 31 = .ok (.iload_n 2, 1) := by decide +kernel
theorem dX8_search_32 : decode cX8_search 32 = .ok (.iaload, 1) := by decide +kernel
theorem dX8_search_33 : decode cX8_search 33 = .ok (.iload_n 2, 1) := by decide +kernel
theorem dX8_search_34 : decode cX8_search 34 = .ok (.invokevirtual 61, 3) := by decide +kernel
theorem dX8_search_37 : decode cX8_search 37 = .ok (.iconst 0, 1) := by decide +kernel
theorem dX8_search_38 : decode cX8_search 38 = .ok (.invokevirtual 67, 3) := by decide +kernel
theorem dX8_search_41 : decode cX8_search 41 = .ok (.iconst 0, 1) := by decide +kernel
theorem dX8_search_42 : decode cX8_search 42 = .ok (.istore 4, 2) := by decide +kernel
theorem dX8_search_44 : decode cX8_search 44 = .ok (.iload 4, 2) := by decide +kernel
theorem dX8_search_46 : decode cX8_search 46 = .ok (.aload_n 0, 1) := by decide +kernel
theorem dX8_search_47 : decode cX8_search 47 = .ok (.getfield 44, 3) := by decide +kernel
theorem dX8_search_50 : decode cX8_search 50 = .ok (.arraylength, 1) := by decide +kernel
theorem dX8_search_51 : decode cX8_search 51 = .ok (.if_icmp .ge 122, 3) := by decide +kernel
theorem dX8_search_54 : decode cX8_search 54 = .ok (.iload 4, 2) := by decide +kernel
theorem dX8_search_56 : decode cX8_search 56 = .ok (.aload_n 0, 1) := by decide +kernel
theorem dX8_search_57 : decode cX8_search 57 = .ok (.getfield 15, 3) := by decide +kernel
theorem dX8_search_60 : decode cX8_search 60 = .ok (.if_icmp .ge 113, 3) := by decide +kernel
theorem dX8_search_63 : decode cX8_search 63 = .ok (.aload_n 0, 1) := by decide +kernel
theorem dX8_search_64 : decode cX8_search 64 = .ok (.getfield 41, 3) := by decide +kernel
theorem dX8_search_67 : decode cX8_search 67 = .ok (.iload_n 3, 1) := by decide +kernel
theorem dX8_search_68 : decode cX8_search 68 = .ok (.iaload, 1) := by decide +kernel
theorem dX8_search_69 : decode cX8_search 69 = .ok (.ifCond .ne 104, 3) := by decide +kernel
theorem dX8_search_72 : decode cX8_search 72 = .ok (.aload_n 0, 1) := by decide +kernel
theorem dX8_search_73 : decode cX8_search 73 = .ok (.getfield 44, 3) := by decide +kernel
theorem dX8_search_76 : decode cX8_search 76 = .ok (.iload 4, 2) := by decide +kernel
theorem dX8_search_78 : decode cX8_search 78 = .ok (.iaload, 1) := by decide +kernel
theorem dX8_search_79 : decode cX8_search 79 = .ok (.aload_n 0, 1) := by decide +kernel
theorem dX8_search_80 : decode cX8_search 80 = .ok (.getfield 38, 3) := by decide +kernel
theorem dX8_search_83 : decode cX8_search 83 = .ok (.idiv, 1) := by decide +kernel
theorem dX8_search_84 : decode cX8_search 84 = .ok (.istore 5, 2) := by decide +kernel
theorem dX8_search_86 : decode cX8_search 86 = .ok (.aload_n 0, 1) := by decide +kernel
theorem dX8_search_87 : decode cX8_search 87 = .ok (.getfield 44, 3) := by decide +kernel
theorem dX8_search_90 : decode cX8_search 90 = .ok (.iload 4, 2) := by decide +kernel
theorem dX8_search_92 : decode cX8_search 92 = .ok (.iaload, 1) := by decide +kernel
theorem dX8_search_93 : decode cX8_search 93 = .ok (.aload_n 0, 1) := by decide +kernel
theorem dX8_search_94 : decode cX8_search 94 = .ok (.getfield 38, 3) := by decide +kernel
theorem dX8_search_97 : decode cX8_search 97 = .ok (.irem, 1) := by decide +kernel
theorem dX8_search_98 : decode cX8_search 98 = .ok (.istore 6, 2) := by decide +kernel
theorem dX8_search_100 : decode cX8_search 100 = .ok (.aload_n 1, 1) := by decide +kernel
theorem dX8_search_101 : decode cX8_search 101 = .ok (.getfield 71, 3) := by decide +kernel
theorem dX8_search_104 : decode cX8_search 104 = .ok (.iload 6, 2) := by decide +kernel
theorem dX8_search_106 : decode cX8_search 106 = .ok (.iaload, 1) := by decide +kernel
theorem dX8_search_107 : decode cX8_search 107 = .ok (.aload_n 1, 1) := by decide +kernel
theorem dX8_search_108 : decode cX8_search 108 = .ok (.getfield 64, 3) := by decide +kernel
theorem dX8_search_111 : decode cX8_search 111 = .ok (.iload 6, 2) := by decide +kernel
theorem dX8_search_113 : decode cX8_search 113 = .ok (.iaload, 1) := by decide +kernel
theorem dX8_search_114 : decode cX8_search 114 = .ok (.ior, 1) := by decide +kernel
theorem dX8_search_115 : decode cX8_search 115 = .ok (.istore 7, 2) := by decide +kernel
theorem dX8_search_117 : decode cX8_search 117 = .ok (.iconst 0, 1) := by decide +kernel
theorem dX8_search_118 : decode cX8_search 118 = .ok (.istore 8, 2) := by decide +kernel
theorem dX8_search_120 : decode cX8_search 120 = .ok (.iload 8, 2) := by decide +kernel
theorem dX8_search_122 : decode cX8_search 122 = .ok (.aload_n 1, 1) := by decide +kernel
theorem dX8_search_123 : decode cX8_search 123 = .ok (.getfield 74, 3) := by decide +kernel
theorem dX8_search_126 : decode cX8_search 126 = .ok (.if_icmp .ge 41, 3) := by decide +kernel
theorem dX8_search_129 : decode cX8_search 129 = .ok (.iload 7, 2) := by decide +kernel
theorem dX8_search_131 : decode cX8_search 131 = .ok (.iload 8, 2) := by decide +kernel
theorem dX8_search_133 : decode cX8_search 133 = .ok (.ishr, 1) := by decide +kernel
theorem dX8_search_134 : decode cX8_search 134 = .ok (.iconst 1, 1) := by decide +kernel
theorem dX8_search_135 : decode cX8_search 135 = .ok (.iand, 1) := by decide +kernel
theorem dX8_search_136 : decode cX8_search 136 = .ok (.ifCond .eq 25, 3) := by decide +kernel
theorem dX8_search_139 : decode cX8_search 139 = .ok (.aload_n 0, 1) := by decide +kernel
theorem dX8_search_140 : decode cX8_search 140 = .ok (.aload_n 0, 1) := by decide +kernel
theorem dX8_search_141 : decode cX8_search 141 = .ok (.iload 5, 2) := by decide +kernel
theorem dX8_search_143 : decode cX8_search 143 = .ok (.aload_n 1, 1) := by decide +kernel
theorem dX8_search_144 : decode cX8_search 144 = .ok (.getfield 64, 3) := by decide +kernel
theorem dX8_search_147 : decode cX8_search 147 = .ok (.iload 8, 2) := by decide +kernel
theorem dX8_search_149 : decode cX8_search 149 = .ok (.iaload, 1) := by decide +kernel
theorem dX8_search_150 : decode cX8_search 150 = .ok (.ior, 1) := by decide +kernel
theorem dX8_search_151 : decode cX8_search 151 = .ok (.iload 8, 2) := by decide +kernel
theorem dX8_search_153 : decode cX8_search 153 = .ok (.invokevirtual 61, 3) := by decide +kernel
theorem dX8_search_156 : decode cX8_search 156 = .ok (.iload 4, 2) := by decide +kernel
theorem dX8_search_158 : decode cX8_search 158 = .ok (.invokevirtual 67, 3) := by decide +kernel
theorem dX8_search_161 : decode cX8_search 161 = .ok (.iinc 8 1, 3) := by decide +kernel
theorem dX8_search_164 : decode cX8_search 164 = .ok (.goto (-44), 3) := by decide +kernel
theorem dX8_search_167 : decode cX8_search 167 = .ok (.iinc 4 1, 3) := by decide +kernel
theorem dX8_search_170 : decode cX8_search 170 = .ok (.goto (-126), 3) := by decide +kernel
theorem dX8_search_173 : decode cX8_search 173 = .ok (.aload_n 0, 1) := by decide +kernel
theorem dX8_search_174 : decode cX8_search 174 = .ok (.getfield 41, 3) := by decide +kernel
theorem dX8_search_177 : decode cX8_search 177 = .ok (.iload_n 3, 1) := by decide +kernel
theorem dX8_search_178 : decode cX8_search 178 = .ok (.iaload, 1) := by decide +kernel
theorem dX8_search_179 : decode cX8_search 179 = .ok (.ifCond .ne 7, 3) := by decide +kernel
theorem dX8_search_182 : decode cX8_search 182 = .ok (.iconst (-1), 1) := by decide +kernel
theorem dX8_search_183 : decode cX8_search 183 = .ok (.goto 8, 3) := by decide +kernel
theorem dX8_search_186 : decode cX8_search 186 = .ok (.aload_n 0, 1) := by decide +kernel
theorem dX8_search_187 : decode cX8_search 187 = .ok (.iload_n 3, 1) := by decide +kernel
theorem dX8_search_188 : decode cX8_search 188 = .ok (.invokevirtual 75, 3) := by decide +kernel
theorem dX8_search_191 : decode cX8_search 191 = .ok (.istore 4, 2) := by decide +kernel
theorem dX8_search_193 : decode cX8_search 193 = .ok (.aload_n 0, 1) := by decide +kernel
theorem dX8_search_194 : decode cX8_search 194 = .ok (.invokevirtual 79, 3) := by decide +kernel
theorem dX8_search_197 : decode cX8_search 197 = .ok (.iload 4, 2) := by decide +kernel
theorem dX8_search_199 : decode cX8_search 199 = .ok (.ireturn, 1) := by decide +kernel
theorem dX8_canBe_0 : decode cX8_canBe 0 = .ok (.iconst 0, 1) := by decide +kernel
theorem dX8_canBe_1 : decode cX8_canBe 1 = .ok (.istore_n 2, 1) := by decide +kernel
theorem dX8_canBe_2 : decode cX8_canBe 2 = .ok (.iconst 0, 1) := by decide +kernel
theorem dX8_canBe_3 : decode cX8_canBe 3 = .ok (.istore_n 3, 1) := by decide +kernel
theorem dX8_canBe_4 : decode cX8_canBe 4 = .ok (.iload_n 3, 1) := by decide +kernel
theorem dX8_canBe_5 : decode cX8_canBe 5 = .ok (.aload_n 0, 1) := by decide +kernel
theorem dX8_canBe_6 : decode cX8_canBe 6 = .ok (.getfield 74, 3) := by decide +kernel
theorem dX8_canBe_9 : decode cX8_canBe 9 = .ok (.if_icmp .ge 30, 3) := by decide +kernel
theorem dX8_canBe_12 : decode cX8_canBe 12 = .ok (.aload_n 0, 1) := by decide +kernel
theorem dX8_canBe_13 : decode cX8_canBe 13 = .ok (.getfield 82, 3) := by decide +kernel
theorem dX8_canBe_16 : decode cX8_canBe 16 = .ok (.iload_n 1, 1) := by decide +kernel
theorem dX8_canBe_17 : decode cX8_canBe 17 = .ok (.bipush 16, 2) := by decide +kernel
theorem dX8_canBe_19 : decode cX8_canBe 19 = .ok (.imul, 1) := by decide +kernel
theorem dX8_canBe_20 : decode cX8_canBe 20 = .ok (.iload_n 3, 1) := by decide +kernel
theorem dX8_canBe_21 : decode cX8_canBe 21 = .ok (.iadd, 1) := by decide +kernel
theorem dX8_canBe_22 : decode cX8_canBe 22 = .ok (.iaload, 1) := by decide +kernel
theorem dX8_canBe_23 : decode cX8_canBe 23 = .ok (.iconst (-1), 1) := by decide +kernel
theorem dX8_canBe_24 : decode cX8_canBe 24 = .ok (.if_icmp .eq 9, 3) := by decide +kernel
theorem dX8_canBe_27 : decode cX8_canBe 27 = .ok (.iload_n 2, 1) := by decide +kernel
theorem dX8_canBe_28 : decode cX8_canBe 28 = .ok (.iconst 1, 1) := by decide +kernel
theorem dX8_canBe_29 : decode cX8_canBe 29 = .ok (.iload_n 3, 1) := by decide +kernel
theorem dX8_canBe_30 : decode cX8_canBe 30 = .ok (.ishl, 1) := by decide +kernel
theorem dX8_canBe_31 : decode cX8_canBe 31 = .ok (.ior, 1) := by decide +kernel
theorem dX8_canBe_32 : decode cX8_canBe 32 = .ok (.istore_n 2, 1) := by decide +kernel
theorem dX8_canBe_33 : decode cX8_canBe 33 = .ok (.iinc 3 1, 3) := by decide +kernel
theorem dX8_canBe_36 : decode cX8_canBe 36 = .ok (.goto (-32), 3) := by decide +kernel
theorem dX8_canBe_39 : decode cX8_canBe 39 = .ok (.aload_n 0, 1) := by decide +kernel
theorem dX8_canBe_40 : decode cX8_canBe 40 = .ok (.iload_n 2, 1) := by decide +kernel
theorem dX8_canBe_41 : decode cX8_canBe 41 = .ok (.invokevirtual 85, 3) := by decide +kernel
theorem dX8_canBe_44 : decode cX8_canBe 44 = .ok (.aload_n 0, 1) := by decide +kernel
theorem dX8_canBe_45 : decode cX8_canBe 45 = .ok (.invokevirtual 55, 3) := by decide +kernel
theorem dX8_canBe_48 : decode cX8_canBe 48 = .ok (.if_icmp .ne 7, 3) := by decide +kernel
theorem dX8_canBe_51 : decode cX8_canBe 51 = .ok (.iconst 1, 1) := by decide +kernel
theorem dX8_canBe_52 : decode cX8_canBe 52 = .ok (.goto 4, 3) := by decide +kernel
theorem dX8_canBe_55 : decode cX8_canBe 55 = .ok (.iconst 0, 1) := by decide +kernel
theorem dX8_canBe_56 : decode cX8_canBe 56 = .ok (.ireturn, 1) := by decide +kernel
theorem dX8_stateOf_0 : decode cX8_stateOf 0 = .ok (.iload_n 1, 1) := by decide +kernel
theorem dX8_stateOf_1 : decode cX8_stateOf 1 = .ok (.aload_n 0, 1) := by decide +kernel
theorem dX8_stateOf_2 : decode cX8_stateOf 2 = .ok (.getfield 38, 3) := by decide +kernel
theorem dX8_stateOf_5 : decode cX8_stateOf 5 = .ok (.imul, 1) := by decide +kernel
theorem dX8_stateOf_6 : decode cX8_stateOf 6 = .ok (.iload_n 2, 1) := by decide +kernel
theorem dX8_stateOf_7 : decode cX8_stateOf 7 = .ok (.iadd, 1) := by decide +kernel
theorem dX8_stateOf_8 : decode cX8_stateOf 8 = .ok (.ireturn, 1) := by decide +kernel
theorem dX8_enter_0 : decode cX8_enter 0 = .ok (.aload_n 0, 1) := by decide +kernel
theorem dX8_enter_1 : decode cX8_enter 1 = .ok (.getfield 41, 3) := by decide +kernel
theorem dX8_enter_4 : decode cX8_enter 4 = .ok (.iload_n 1, 1) := by decide +kernel
theorem dX8_enter_5 : decode cX8_enter 5 = .ok (.iaload, 1) := by decide +kernel
theorem dX8_enter_6 : decode cX8_enter 6 = .ok (.ifCond .ne 44, 3) := by decide +kernel
theorem dX8_enter_9 : decode cX8_enter 9 = .ok (.aload_n 0, 1) := by decide +kernel
theorem dX8_enter_10 : decode cX8_enter 10 = .ok (.getfield 15, 3) := by decide +kernel
theorem dX8_enter_13 : decode cX8_enter 13 = .ok (.aload_n 0, 1) := by decide +kernel
theorem dX8_enter_14 : decode cX8_enter 14 = .ok (.getfield 44, 3) := by decide +kernel
theorem dX8_enter_17 : decode cX8_enter 17 = .ok (.arraylength, 1) := by decide +kernel
theorem dX8_enter_18 : decode cX8_enter 18 = .ok (.if_icmp .ge 32, 3) := by decide +kernel
theorem dX8_enter_21 : decode cX8_enter 21 = .ok (.aload_n 0, 1) := by decide +kernel
theorem dX8_enter_22 : decode cX8_enter 22 = .ok (.getfield 41, 3) := by decide +kernel
theorem dX8_enter_25 : decode cX8_enter 25 = .ok (.iload_n 1, 1) := by decide +kernel
theorem dX8_enter_26 : decode cX8_enter 26 = .ok (.iload_n 2, 1) := by decide +kernel
theorem dX8_enter_27 : decode cX8_enter 27 = .ok (.iconst 1, 1) := by decide +kernel
theorem dX8_enter_28 : decode cX8_enter 28 = .ok (.iadd, 1) := by decide +kernel
theorem dX8_enter_29 : decode cX8_enter 29 = .ok (.iastore, 1) := by decide +kernel
theorem dX8_enter_30 : decode cX8_enter 30 = .ok (.aload_n 0, 1) := by decide +kernel
theorem dX8_enter_31 : decode cX8_enter 31 = .ok (.getfield 44, 3) := by decide +kernel
theorem dX8_enter_34 : decode cX8_enter 34 = .ok (.aload_n 0, 1) := by decide +kernel
theorem dX8_enter_35 : decode cX8_enter 35 = .ok (.getfield 15, 3) := by decide +kernel
theorem dX8_enter_38 : decode cX8_enter 38 = .ok (.iload_n 1, 1) := by decide +kernel
theorem dX8_enter_39 : decode cX8_enter 39 = .ok (.iastore, 1) := by decide +kernel
theorem dX8_enter_40 : decode cX8_enter 40 = .ok (.aload_n 0, 1) := by decide +kernel
theorem dX8_enter_41 : decode cX8_enter 41 = .ok (.dup, 1) := by decide +kernel
theorem dX8_enter_42 : decode cX8_enter 42 = .ok (.getfield 15, 3) := by decide +kernel
theorem dX8_enter_45 : decode cX8_enter 45 = .ok (.iconst 1, 1) := by decide +kernel
theorem dX8_enter_46 : decode cX8_enter 46 = .ok (.iadd, 1) := by decide +kernel
theorem dX8_enter_47 : decode cX8_enter 47 = .ok (.putfield 15, 3) := by decide +kernel
theorem dX8_enter_50 : decode cX8_enter 50 = .ok (.return_, 1) := by decide +kernel
theorem dX8_tracePath_0 : decode cX8_tracePath 0 = .ok (.iconst 0, 1) := by decide +kernel
theorem dX8_tracePath_1 : decode cX8_tracePath 1 = .ok (.istore_n 2, 1) := by decide +kernel
theorem dX8_tracePath_2 : decode cX8_tracePath 2 = .ok (.iload_n 1, 1) := by decide +kernel
theorem dX8_tracePath_3 : decode cX8_tracePath 3 = .ok (.istore_n 3, 1) := by decide +kernel
theorem dX8_tracePath_4 : decode cX8_tracePath 4 = .ok (.iload_n 2, 1) := by decide +kernel
theorem dX8_tracePath_5 : decode cX8_tracePath 5 = .ok (.aload_n 0, 1) := by decide +kernel
theorem dX8_tracePath_6 : decode cX8_tracePath 6 = .ok (.getfield 9, 3) := by decide +kernel
theorem dX8_tracePath_9 : decode cX8_tracePath 9 = .ok (.arraylength, 1) := by decide +kernel
theorem dX8_tracePath_10 : decode cX8_tracePath 10 = .ok (.iconst 1, 1) := by decide +kernel
theorem dX8_tracePath_11 : decode cX8_tracePath 11 = .ok (.isub, 1) := by decide +kernel
theorem dX8_tracePath_12 : decode cX8_tracePath 12 = .ok (.if_icmp .ge 25, 3) := by decide +kernel
theorem dX8_tracePath_15 : decode cX8_tracePath 15 = .ok (.iload_n 3, 1) := by decide +kernel
theorem dX8_tracePath_16 : decode cX8_tracePath 16 = .ok (.aload_n 0, 1) := by decide +kernel
theorem dX8_tracePath_17 : decode cX8_tracePath 17 = .ok (.getfield 44, 3) := by decide +kernel
theorem dX8_tracePath_20 : decode cX8_tracePath 20 = .ok (.iconst 0, 1) := by decide +kernel
theorem dX8_tracePath_21 : decode cX8_tracePath 21 = .ok (.iaload, 1) := by decide +kernel
theorem dX8_tracePath_22 : decode cX8_tracePath 22 = .ok (.if_icmp .eq 15, 3) := by decide +kernel
theorem dX8_tracePath_25 : decode cX8_tracePath 25 = .ok (.aload_n 0, 1) := by decide +kernel
theorem dX8_tracePath_26 : decode cX8_tracePath 26 = .ok (.iload_n 3, 1) := by decide +kernel
theorem dX8_tracePath_27 : decode cX8_tracePath 27 = .ok (.invokevirtual 88, 3) := by decide +kernel
theorem dX8_tracePath_30 : decode cX8_tracePath 30 = .ok (.istore_n 3, 1) := by decide +kernel
theorem dX8_tracePath_31 : decode cX8_tracePath 31 = .ok (.iinc 2 1, 3) := by decide +kernel
theorem dX8_tracePath_34 : decode cX8_tracePath 34 = .ok (.goto (-30), 3) := by decide +kernel
theorem dX8_tracePath_37 : decode cX8_tracePath 37 = .ok (.iload_n 1, 1) := by decide +kernel
theorem dX8_tracePath_38 : decode cX8_tracePath 38 = .ok (.istore_n 3, 1) := by decide +kernel
theorem dX8_tracePath_39 : decode cX8_tracePath 39 = .ok (.iload_n 2, 1) := by decide +kernel
theorem dX8_tracePath_40 : decode cX8_tracePath 40 = .ok (.istore 4, 2) := by decide +kernel
theorem dX8_tracePath_42 : decode cX8_tracePath 42 = .ok (.iload 4, 2) := by decide +kernel
theorem dX8_tracePath_44 : decode cX8_tracePath 44 = .ok (.ifCond .lt 28, 3) := by decide +kernel
theorem dX8_tracePath_47 : decode cX8_tracePath 47 = .ok (.aload_n 0, 1) := by decide +kernel
theorem dX8_tracePath_48 : decode cX8_tracePath 48 = .ok (.getfield 9, 3) := by decide +kernel
theorem dX8_tracePath_51 : decode cX8_tracePath 51 = .ok (.iload 4, 2) := by decide +kernel
theorem dX8_tracePath_53 : decode cX8_tracePath 53 = .ok (.iload_n 3, 1) := by decide +kernel
theorem dX8_tracePath_54 : decode cX8_tracePath 54 = .ok (.aload_n 0, 1) := by decide +kernel
theorem dX8_tracePath_55 : decode cX8_tracePath 55 = .ok (.getfield 38, 3) := by decide +kernel
theorem dX8_tracePath_58 : decode cX8_tracePath 58 = .ok (.irem, 1) := by decide +kernel
theorem dX8_tracePath_59 : decode cX8_tracePath 59 = .ok (.iastore, 1) := by decide +kernel
theorem dX8_tracePath_60 : decode cX8_tracePath 60 = .ok (.aload_n 0, 1) := by decide +kernel
theorem dX8_tracePath_61 : decode cX8_tracePath 61 = .ok (.iload_n 3, 1) := by decide +kernel
theorem dX8_tracePath_62 : decode cX8_tracePath 62 = .ok (.invokevirtual 88, 3) := by decide +kernel
theorem dX8_tracePath_65 : decode cX8_tracePath 65 = .ok (.istore_n 3, 1) := by decide +kernel
theorem dX8_tracePath_66 : decode cX8_tracePath 66 = .ok (.iinc 4 (-1), 3) := by decide +kernel
theorem dX8_tracePath_69 : decode cX8_tracePath 69 = .ok (.goto (-27), 3) := by decide +kernel
theorem dX8_tracePath_72 : decode cX8_tracePath 72 = .ok (.iload_n 2, 1) := by decide +kernel
theorem dX8_tracePath_73 : decode cX8_tracePath 73 = .ok (.ireturn, 1) := by decide +kernel
theorem dX8_before_0 : decode cX8_before 0 = .ok (.aload_n 0, 1) := by decide +kernel
theorem dX8_before_1 : decode cX8_before 1 = .ok (.getfield 41, 3) := by decide +kernel
theorem dX8_before_4 : decode cX8_before 4 = .ok (.iload_n 1, 1) := by decide +kernel
theorem dX8_before_5 : decode cX8_before 5 = .ok (.iaload, 1) := by decide +kernel
theorem dX8_before_6 : decode cX8_before 6 = .ok (.iconst 1, 1) := by decide +kernel
theorem dX8_before_7 : decode cX8_before 7 = .ok (.isub, 1) := by decide +kernel
theorem dX8_before_8 : decode cX8_before 8 = .ok (.istore_n 2, 1) := by decide +kernel
theorem dX8_before_9 : decode cX8_before 9 = .ok (.iload_n 2, 1) := by decide +kernel
theorem dX8_before_10 : decode cX8_before 10 = .ok (.ifCond .lt 12, 3) := by decide +kernel
theorem dX8_before_13 : decode cX8_before 13 = .ok (.aload_n 0, 1) := by decide +kernel
theorem dX8_before_14 : decode cX8_before 14 = .ok (.getfield 44, 3) := by decide +kernel
theorem dX8_before_17 : decode cX8_before 17 = .ok (.iload_n 2, 1) := by decide +kernel
theorem dX8_before_18 : decode cX8_before 18 = .ok (.iaload, 1) := by decide +kernel
theorem dX8_before_19 : decode cX8_before 19 = .ok (.goto 4, 3) := by decide +kernel
theorem dX8_before_22 : decode cX8_before 22 = .ok (.iload_n 1, 1) := by decide +kernel
theorem dX8_before_23 : decode cX8_before 23 = .ok (.ireturn, 1) := by decide +kernel
theorem dX8_forget_0 : decode cX8_forget 0 = .ok (.iconst 0, 1) := by decide +kernel
theorem dX8_forget_1 : decode cX8_forget 1 = .ok (.istore_n 1, 1) := by decide +kernel
theorem dX8_forget_2 : decode cX8_forget 2 = .ok (.iload_n 1, 1) := by decide +kernel
theorem dX8_forget_3 : decode cX8_forget 3 = .ok (.aload_n 0, 1) := by decide +kernel
theorem dX8_forget_4 : decode cX8_forget 4 = .ok (.getfield 15, 3) := by decide +kernel
theorem dX8_forget_7 : decode cX8_forget 7 = .ok (.if_icmp .ge 21, 3) := by decide +kernel
theorem dX8_forget_10 : decode cX8_forget 10 = .ok (.aload_n 0, 1) := by decide +kernel
theorem dX8_forget_11 : decode cX8_forget 11 = .ok (.getfield 41, 3) := by decide +kernel
theorem dX8_forget_14 : decode cX8_forget 14 = .ok (.aload_n 0, 1) := by decide +kernel
theorem dX8_forget_15 : decode cX8_forget 15 = .ok (.getfield 44, 3) := by decide +kernel
theorem dX8_forget_18 : decode cX8_forget 18 = .ok (.iload_n 1, 1) := by decide +kernel
theorem dX8_forget_19 : decode cX8_forget 19 = .ok (.iaload, 1) := by decide +kernel
theorem dX8_forget_20 : decode cX8_forget 20 = .ok (.iconst 0, 1) := by decide +kernel
theorem dX8_forget_21 : decode cX8_forget 21 = .ok (.iastore, 1) := by decide +kernel
theorem dX8_forget_22 : decode cX8_forget 22 = .ok (.iinc 1 1, 3) := by decide +kernel
theorem dX8_forget_25 : decode cX8_forget 25 = .ok (.goto (-23), 3) := by decide +kernel
theorem dX8_forget_28 : decode cX8_forget 28 = .ok (.return_, 1) := by decide +kernel
theorem dX9_init_0 : decode cX9_init 0 = .ok (.aload_n 0, 1) := by decide +kernel
theorem dX9_init_1 : decode cX9_init 1 = .ok (.invokespecial 3, 3) := by decide +kernel
theorem dX9_init_4 : decode cX9_init 4 = .ok (.aload_n 0, 1) := by decide +kernel
theorem dX9_init_5 : decode cX9_init 5 = .ok (.bipush 16, 2) := by decide +kernel
theorem dX9_init_7 : decode cX9_init 7 = .ok (.newarray .int, 2) := by decide +kernel
theorem dX9_init_9 : decode cX9_init 9 = .ok (.putfield 9, 3) := by decide +kernel
theorem dX9_init_12 : decode cX9_init 12 = .ok (.aload_n 0, 1) := by decide +kernel
theorem dX9_init_13 : decode cX9_init 13 = .ok (.bipush 17, 2) := by decide +kernel
theorem dX9_init_15 : decode cX9_init 15 = .ok (.newarray .int, 2) := by decide +kernel
theorem dX9_init_17 : decode cX9_init 17 = .ok (.putfield 15, 3) := by decide +kernel
theorem dX9_init_20 : decode cX9_init 20 = .ok (.aload_n 0, 1) := by decide +kernel
theorem dX9_init_21 : decode cX9_init 21 = .ok (.iconst 0, 1) := by decide +kernel
theorem dX9_init_22 : decode cX9_init 22 = .ok (.putfield 18, 3) := by decide +kernel
theorem dX9_init_25 : decode cX9_init 25 = .ok (.aload_n 0, 1) := by decide +kernel
theorem dX9_init_26 : decode cX9_init 26 = .ok (.sipush 1024, 3) := by decide +kernel
theorem dX9_init_29 : decode cX9_init 29 = .ok (.newarray .int, 2) := by decide +kernel
theorem dX9_init_31 : decode cX9_init 31 = .ok (.putfield 22, 3) := by decide +kernel
theorem dX9_init_34 : decode cX9_init 34 = .ok (.aload_n 0, 1) := by decide +kernel
theorem dX9_init_35 : decode cX9_init 35 = .ok (.aconst_null, 1) := by decide +kernel
theorem dX9_init_36 : decode cX9_init 36 = .ok (.putfield 25, 3) := by decide +kernel
theorem dX9_init_39 : decode cX9_init 39 = .ok (.return_, 1) := by decide +kernel
theorem dX9_savingOf_0 : decode cX9_savingOf 0 = .ok (.aload_n 0, 1) := by decide +kernel
theorem dX9_savingOf_1 : decode cX9_savingOf 1 = .ok (.iconst 0, 1) := by decide +kernel
theorem dX9_savingOf_2 : decode cX9_savingOf 2 = .ok (.putfield 18, 3) := by decide +kernel
theorem dX9_savingOf_5 : decode cX9_savingOf 5 = .ok (.iconst 0, 1) := by decide +kernel
theorem dX9_savingOf_6 : decode cX9_savingOf 6 = .ok (.istore_n 3, 1) := by decide +kernel
theorem dX9_savingOf_7 : decode cX9_savingOf 7 = .ok (.iload_n 3, 1) := by decide +kernel
theorem dX9_savingOf_8 : decode cX9_savingOf 8 = .ok (.aload_n 1, 1) := by decide +kernel
theorem dX9_savingOf_9 : decode cX9_savingOf 9 = .ok (.getfield 29, 3) := by decide +kernel
theorem dX9_savingOf_12 : decode cX9_savingOf 12 = .ok (.if_icmp .ge 56, 3) := by decide +kernel
theorem dX9_savingOf_15 : decode cX9_savingOf 15 = .ok (.aload_n 0, 1) := by decide +kernel
theorem dX9_savingOf_16 : decode cX9_savingOf 16 = .ok (.getfield 9, 3) := by decide +kernel
theorem dX9_savingOf_19 : decode cX9_savingOf 19 = .ok (.iload_n 3, 1) := by decide +kernel
theorem dX9_savingOf_20 : decode cX9_savingOf 20 = .ok (.iload_n 2, 1) := by decide +kernel
theorem dX9_savingOf_21 : decode cX9_savingOf 21 = .ok (.iload_n 3, 1) := by decide +kernel
theorem dX9_savingOf_22 : decode cX9_savingOf 22 = .ok (.ishr, 1) := by decide +kernel
theorem dX9_savingOf_23 : decode cX9_savingOf 23 = .ok (.iconst 1, 1) := by decide +kernel
theorem dX9_savingOf_24 : decode cX9_savingOf 24 = .ok (.iand, 1) := by decide +kernel
theorem dX9_savingOf_25 : decode cX9_savingOf 25 = .ok (.ifCond .eq 14, 3) := by decide +kernel
theorem dX9_savingOf_28 : decode cX9_savingOf 28 = .ok (.aload_n 1, 1) := by decide +kernel
theorem dX9_savingOf_29 : decode cX9_savingOf 29 = .ok (.getfield 34, 3) := by decide +kernel
theorem dX9_savingOf_32 : decode cX9_savingOf 32 = .ok (.iload_n 3, 1) := by decide +kernel
theorem dX9_savingOf_33 : decode cX9_savingOf 33 = .ok (.iaload, 1) := by decide +kernel
theorem dX9_savingOf_34 : decode cX9_savingOf 34 = .ok (.iload_n 2, 1) := by decide +kernel
theorem dX9_savingOf_35 : decode cX9_savingOf 35 = .ok (.iand, 1) := by decide +kernel
theorem dX9_savingOf_36 : decode cX9_savingOf 36 = .ok (.goto 4, 3) := by decide +kernel
theorem dX9_savingOf_39 : decode cX9_savingOf 39 = .ok (.iconst 0, 1) := by decide +kernel
theorem dX9_savingOf_40 : decode cX9_savingOf 40 = .ok (.iastore, 1) := by decide +kernel
theorem dX9_savingOf_41 : decode cX9_savingOf 41 = .ok (.aload_n 0, 1) := by decide +kernel
theorem dX9_savingOf_42 : decode cX9_savingOf 42 = .ok (.getfield 15, 3) := by decide +kernel
theorem dX9_savingOf_45 : decode cX9_savingOf 45 = .ok (.iload_n 3, 1) := by decide +kernel
theorem dX9_savingOf_46 : decode cX9_savingOf 46 = .ok (.iconst 1, 1) := by decide +kernel
theorem dX9_savingOf_47 : decode cX9_savingOf 47 = .ok (.iadd, 1) := by decide +kernel
theorem dX9_savingOf_48 : decode cX9_savingOf 48 = .ok (.aload_n 0, 1) := by decide +kernel
theorem dX9_savingOf_49 : decode cX9_savingOf 49 = .ok (.getfield 15, 3) := by decide +kernel
theorem dX9_savingOf_52 : decode cX9_savingOf 52 = .ok (.iload_n 3, 1) := by decide +kernel
theorem dX9_savingOf_53 : decode cX9_savingOf 53 = .ok (.iaload, 1) := by decide +kernel
theorem dX9_savingOf_54 : decode cX9_savingOf 54 = .ok (.aload_n 0, 1) := by decide +kernel
theorem dX9_savingOf_55 : decode cX9_savingOf 55 = .ok (.getfield 9, 3) := by decide +kernel
theorem dX9_savingOf_58 : decode cX9_savingOf 58 = .ok (.iload_n 3, 1) := by decide +kernel
theorem dX9_savingOf_59 : decode cX9_savingOf 59 = .ok (.iaload, 1) := by decide +kernel
theorem dX9_savingOf_60 : decode cX9_savingOf 60 = .ok (.ior, 1) := by decide +kernel
theorem dX9_savingOf_61 : decode cX9_savingOf 61 = .ok (.iastore, 1) := by decide +kernel
theorem dX9_savingOf_62 : decode cX9_savingOf 62 = .ok (.iinc 3 1, 3) := by decide +kernel
theorem dX9_savingOf_65 : decode cX9_savingOf 65 = .ok (.goto (-58), 3) := by decide +kernel
theorem dX9_savingOf_68 : decode cX9_savingOf 68 = .ok (.aload_n 0, 1) := by decide +kernel
theorem dX9_savingOf_69 : decode cX9_savingOf 69 = .ok (.aload_n 1, 1) := by decide +kernel
theorem dX9_savingOf_70 : decode cX9_savingOf 70 = .ok (.aload_n 1, 1) := by decide +kernel
theorem dX9_savingOf_71 : decode cX9_savingOf 71 = .ok (.getfield 29, 3) := by decide +kernel
theorem dX9_savingOf_74 : decode cX9_savingOf 74 = .ok (.iconst 0, 1) := by decide +kernel
theorem dX9_savingOf_75 : decode cX9_savingOf 75 = .ok (.iconst 0, 1) := by decide +kernel
theorem dX9_savingOf_76 : decode cX9_savingOf 76 = .ok (.invokestatic 37, 3) := by decide +kernel
theorem dX9_savingOf_79 : decode cX9_savingOf 79 = .ok (.aload_n 0, 1) := by decide +kernel
theorem dX9_savingOf_80 : decode cX9_savingOf 80 = .ok (.getfield 18, 3) := by decide +kernel
theorem dX9_savingOf_83 : decode cX9_savingOf 83 = .ok (.ireturn, 1) := by decide +kernel
theorem dX9_seek_0 : decode cX9_seek 0 = .ok (.aload_n 1, 1) := by decide +kernel
theorem dX9_seek_1 : decode cX9_seek 1 = .ok (.getfield 41, 3) := by decide +kernel
theorem dX9_seek_4 : decode cX9_seek 4 = .ok (.istore 5, 2) := by decide +kernel
theorem dX9_seek_6 : decode cX9_seek 6 = .ok (.aload_n 0, 1) := by decide +kernel
theorem dX9_seek_7 : decode cX9_seek 7 = .ok (.aload_n 0, 1) := by decide +kernel
theorem dX9_seek_8 : decode cX9_seek 8 = .ok (.getfield 18, 3) := by decide +kernel
theorem dX9_seek_11 : decode cX9_seek 11 = .ok (.iload 5, 2) := by decide +kernel
theorem dX9_seek_13 : decode cX9_seek 13 = .ok (.iload_n 3, 1) := by decide +kernel
theorem dX9_seek_14 : decode cX9_seek 14 = .ok (.invokestatic 44, 3) := by decide +kernel
theorem dX9_seek_17 : decode cX9_seek 17 = .ok (.imul, 1) := by decide +kernel
theorem dX9_seek_18 : decode cX9_seek 18 = .ok (.iload 4, 2) := by decide +kernel
theorem dX9_seek_20 : decode cX9_seek 20 = .ok (.isub, 1) := by decide +kernel
theorem dX9_seek_21 : decode cX9_seek 21 = .ok (.invokestatic 50, 3) := by decide +kernel
theorem dX9_seek_24 : decode cX9_seek 24 = .ok (.putfield 18, 3) := by decide +kernel
theorem dX9_seek_27 : decode cX9_seek 27 = .ok (.iload_n 2, 1) := by decide +kernel
theorem dX9_seek_28 : decode cX9_seek 28 = .ok (.ifCond .le 27, 3) := by decide +kernel
theorem dX9_seek_31 : decode cX9_seek 31 = .ok (.iload 5, 2) := by decide +kernel
theorem dX9_seek_33 : decode cX9_seek 33 = .ok (.iload_n 3, 1) := by decide +kernel
theorem dX9_seek_34 : decode cX9_seek 34 = .ok (.aload_n 0, 1) := by decide +kernel
theorem dX9_seek_35 : decode cX9_seek 35 = .ok (.getfield 15, 3) := by decide +kernel
theorem dX9_seek_38 : decode cX9_seek 38 = .ok (.iload_n 2, 1) := by decide +kernel
theorem dX9_seek_39 : decode cX9_seek 39 = .ok (.iaload, 1) := by decide +kernel
theorem dX9_seek_40 : decode cX9_seek 40 = .ok (.ior, 1) := by decide +kernel
theorem dX9_seek_41 : decode cX9_seek 41 = .ok (.invokestatic 44, 3) := by decide +kernel
theorem dX9_seek_44 : decode cX9_seek 44 = .ok (.imul, 1) := by decide +kernel
theorem dX9_seek_45 : decode cX9_seek 45 = .ok (.iload 4, 2) := by decide +kernel
theorem dX9_seek_47 : decode cX9_seek 47 = .ok (.isub, 1) := by decide +kernel
theorem dX9_seek_48 : decode cX9_seek 48 = .ok (.aload_n 0, 1) := by decide +kernel
theorem dX9_seek_49 : decode cX9_seek 49 = .ok (.getfield 18, 3) := by decide +kernel
theorem dX9_seek_52 : decode cX9_seek 52 = .ok (.if_icmp .gt 4, 3) := by decide +kernel
theorem dX9_seek_55 : decode cX9_seek 55 = .ok (.return_, 1) := by decide +kernel
theorem dX9_seek_56 : decode cX9_seek 56 = .ok (.iload_n 2, 1) := by decide +kernel
theorem dX9_seek_57 : decode cX9_seek 57 = .ok (.iconst 1, 1) := by decide +kernel
theorem dX9_seek_58 : decode cX9_seek 58 = .ok (.isub, 1) := by decide +kernel
theorem dX9_seek_59 : decode cX9_seek 59 = .ok (.istore 6, 2) := by decide +kernel
theorem dX9_seek_61 : decode cX9_seek 61 = .ok (.aload_n 0, 1) := by decide +kernel
theorem dX9_seek_62 : decode cX9_seek 62 = .ok (.getfield 9, 3) := by decide +kernel
theorem dX9_seek_65 : decode cX9_seek 65 = .ok (.iload 6, 2) := by decide +kernel
theorem dX9_seek_67 : decode cX9_seek 67 = .ok (.iaload, 1) := by decide +kernel
theorem dX9_seek_68 : decode cX9_seek 68 = .ok (.iload_n 3, 1) := by decide +kernel
theorem dX9_seek_69 : decode cX9_seek 69 = .ok (.iconst (-1), 1) := by decide +kernel
theorem dX9_seek_70 : decode cX9_seek 70 = .ok (.ixor, 1) := by decide +kernel
theorem dX9_seek_71 : decode cX9_seek 71 = .ok (.iand, 1) := by decide +kernel
theorem dX9_seek_72 : decode cX9_seek 72 = .ok (.istore 7, 2) := by decide +kernel
theorem dX9_seek_74 : decode cX9_seek 74 = .ok (.aload_n 1, 1) := by decide +kernel
theorem dX9_seek_75 : decode cX9_seek 75 = .ok (.getfield 56, 3) := by decide +kernel
theorem dX9_seek_78 : decode cX9_seek 78 = .ok (.iload 6, 2) := by decide +kernel
theorem dX9_seek_80 : decode cX9_seek 80 = .ok (.iaload, 1) := by decide +kernel
theorem dX9_seek_81 : decode cX9_seek 81 = .ok (.istore 8, 2) := by decide +kernel
theorem dX9_seek_83 : decode cX9_seek 83 = .ok (.iload 8, 2) := by decide +kernel
theorem dX9_seek_85 : decode cX9_seek 85 = .ok (.iload 5, 2) := by decide +kernel
theorem dX9_seek_87 : decode cX9_seek 87 = .ok (.iload 7, 2) := by decide +kernel
theorem dX9_seek_89 : decode cX9_seek 89 = .ok (.invokestatic 44, 3) := by decide +kernel
theorem dX9_seek_92 : decode cX9_seek 92 = .ok (.imul, 1) := by decide +kernel
theorem dX9_seek_93 : decode cX9_seek 93 = .ok (.if_icmp .ge 19, 3) := by decide +kernel
theorem dX9_seek_96 : decode cX9_seek 96 = .ok (.aload_n 0, 1) := by decide +kernel
theorem dX9_seek_97 : decode cX9_seek 97 = .ok (.aload_n 1, 1) := by decide +kernel
theorem dX9_seek_98 : decode cX9_seek 98 = .ok (.iload 6, 2) := by decide +kernel
theorem dX9_seek_100 : decode cX9_seek 100 = .ok (.iload_n 3, 1) := by decide +kernel
theorem dX9_seek_101 : decode cX9_seek 101 = .ok (.iload 7, 2) := by decide +kernel
theorem dX9_seek_103 : decode cX9_seek 103 = .ok (.ior, 1) := by decide +kernel
theorem dX9_seek_104 : decode cX9_seek 104 = .ok (.iload 4, 2) := by decide +kernel
theorem dX9_seek_106 : decode cX9_seek 106 = .ok (.iload 8, 2) := by decide +kernel
theorem dX9_seek_108 : decode cX9_seek 108 = .ok (.iadd, 1) := by decide +kernel
theorem dX9_seek_109 : decode cX9_seek 109 = .ok (.invokestatic 37, 3) := by decide +kernel
theorem dX9_seek_112 : decode cX9_seek 112 = .ok (.aload_n 0, 1) := by decide +kernel
theorem dX9_seek_113 : decode cX9_seek 113 = .ok (.aload_n 1, 1) := by decide +kernel
theorem dX9_seek_114 : decode cX9_seek 114 = .ok (.iload 6, 2) := by decide +kernel
theorem dX9_seek_116 : decode cX9_seek 116 = .ok (.iload_n 3, 1) := by decide +kernel
theorem dX9_seek_117 : decode cX9_seek 117 = .ok (.iload 4, 2) := by decide +kernel
theorem dX9_seek_119 : decode cX9_seek 119 = .ok (.invokestatic 37, 3) := by decide +kernel
theorem dX9_seek_122 : decode cX9_seek 122 = .ok (.return_, 1) := by decide +kernel
theorem dX9_findSavings_0 : decode cX9_findSavings 0 = .ok (.aload_n 0, 1) := by decide +kernel
theorem dX9_findSavings_1 : decode cX9_findSavings 1 = .ok (.getfield 25, 3) := by decide +kernel
theorem dX9_findSavings_4 : decode cX9_findSavings 4 = .ok (.aload_n 1, 1) := by decide +kernel
theorem dX9_findSavings_5 : decode cX9_findSavings 5 = .ok (.if_acmp .ne 4, 3) := by decide +kernel
theorem dX9_findSavings_8 : decode cX9_findSavings 8 = .ok (.return_, 1) := by decide +kernel
theorem dX9_findSavings_9 : decode cX9_findSavings 9 = .ok (.iconst 0, 1) := by decide +kernel
theorem dX9_findSavings_10 : decode cX9_findSavings 10 = .ok (.istore_n 2, 1) := by decide +kernel
theorem dX9_findSavings_11 : decode cX9_findSavings 11 = .ok (.iload_n 2, 1) := by decide +kernel
theorem dX9_findSavings_12 : decode cX9_findSavings 12 = .ok (.aload_n 0, 1) := by decide +kernel
theorem dX9_findSavings_13 : decode cX9_findSavings 13 = .ok (.getfield 22, 3) := by decide +kernel
theorem dX9_findSavings_16 : decode cX9_findSavings 16 = .ok (.arraylength, 1) := by decide +kernel
theorem dX9_findSavings_17 : decode cX9_findSavings 17 = .ok (.if_icmp .ge 29, 3) := by decide +kernel
theorem dX9_findSavings_20 : decode cX9_findSavings 20 = .ok (.iload_n 2, 1) := by decide +kernel
theorem dX9_findSavings_21 : decode cX9_findSavings 21 = .ok (.aload_n 1, 1) := by decide +kernel
theorem dX9_findSavings_22 : decode cX9_findSavings 22 = .ok (.invokevirtual 59, 3) := by decide +kernel
theorem dX9_findSavings_25 : decode cX9_findSavings 25 = .ok (.if_icmp .gt 21, 3) := by decide +kernel
theorem dX9_findSavings_28 : decode cX9_findSavings 28 = .ok (.aload_n 0, 1) := by decide +kernel
theorem dX9_findSavings_29 : decode cX9_findSavings 29 = .ok (.getfield 22, 3) := by decide +kernel
theorem dX9_findSavings_32 : decode cX9_findSavings 32 = .ok (.iload_n 2, 1) := by decide +kernel
theorem dX9_findSavings_33 : decode cX9_findSavings 33 = .ok (.aload_n 0, 1) := by decide +kernel
theorem dX9_findSavings_34 : decode cX9_findSavings 34 = .ok (.aload_n 1, 1) := by decide +kernel
theorem dX9_findSavings_35 : decode cX9_findSavings 35 = .ok (.iload_n 2, 1) := by decide +kernel
theorem dX9_findSavings_36 : decode cX9_findSavings 36 = .ok (.invokevirtual 63, 3) := by decide +kernel
theorem dX9_findSavings_39 : decode cX9_findSavings 39 = .ok (.iastore, 1) := by decide +kernel
theorem dX9_findSavings_40 : decode cX9_findSavings 40 = .ok (.iinc 2 1, 3) := by decide +kernel
theorem dX9_findSavings_43 : decode cX9_findSavings 43 = .ok (.goto (-32), 3) := by decide +kernel
theorem dX9_findSavings_46 : decode cX9_findSavings 46 = .ok (.aload_n 0, 1) := by decide +kernel
theorem dX9_findSavings_47 : decode cX9_findSavings 47 = .ok (.aload_n 1, 1) := by decide +kernel
theorem dX9_findSavings_48 : decode cX9_findSavings 48 = .ok (.putfield 25, 3) := by decide +kernel
theorem dX9_findSavings_51 : decode cX9_findSavings 51 = .ok (.return_, 1) := by decide +kernel
theorem dX9_owedOverOrders_0 : decode cX9_owedOverOrders 0 = .ok (.aload_n 0, 1) := by decide +kernel
theorem dX9_owedOverOrders_1 : decode cX9_owedOverOrders 1 = .ok (.aload_n 1, 1) := by decide +kernel
theorem dX9_owedOverOrders_2 : decode cX9_owedOverOrders 2 = .ok (.invokevirtual 67, 3) := by decide +kernel
theorem dX9_owedOverOrders_5 : decode cX9_owedOverOrders 5 = .ok (.lconst 0, 1) := by decide +kernel
theorem dX9_owedOverOrders_6 : decode cX9_owedOverOrders 6 = .ok (.lstore_n 3, 1) := by decide +kernel
theorem dX9_owedOverOrders_7 : decode cX9_owedOverOrders 7 = .ok (.iconst 1, 1) := by decide +kernel
theorem dX9_owedOverOrders_8 : decode cX9_owedOverOrders 8 = .ok (.iload_n 2, 1) := by decide +kernel
theorem dX9_owedOverOrders_9 : decode cX9_owedOverOrders 9 = .ok (.ishl, 1) := by decide +kernel
theorem dX9_owedOverOrders_10 : decode cX9_owedOverOrders 10 = .ok (.istore 5, 2) := by decide +kernel
theorem dX9_owedOverOrders_12 : decode cX9_owedOverOrders 12 = .ok (.iconst 0, 1) := by decide +kernel
theorem dX9_owedOverOrders_13 : decode cX9_owedOverOrders 13 = .ok (.istore 6, 2) := by decide +kernel
theorem dX9_owedOverOrders_15 : decode cX9_owedOverOrders 15 = .ok (.iload 6, 2) := by decide +kernel
theorem dX9_owedOverOrders_17 : decode cX9_owedOverOrders 17 = .ok (.aload_n 0, 1) := by decide +kernel
theorem dX9_owedOverOrders_18 : decode cX9_owedOverOrders 18 = .ok (.getfield 22, 3) := by decide +kernel
theorem dX9_owedOverOrders_21 : decode cX9_owedOverOrders 21 = .ok (.arraylength, 1) := by decide +kernel
theorem dX9_owedOverOrders_22 : decode cX9_owedOverOrders 22 = .ok (.if_icmp .ge 78, 3) := by decide +kernel
theorem dX9_owedOverOrders_25 : decode cX9_owedOverOrders 25 = .ok (.iload 6, 2) := by decide +kernel
theorem dX9_owedOverOrders_27 : decode cX9_owedOverOrders 27 = .ok (.aload_n 1, 1) := by decide +kernel
theorem dX9_owedOverOrders_28 : decode cX9_owedOverOrders 28 = .ok (.invokevirtual 59, 3) := by decide +kernel
theorem dX9_owedOverOrders_31 : decode cX9_owedOverOrders 31 = .ok (.if_icmp .gt 69, 3) := by decide +kernel
theorem dX9_owedOverOrders_34 : decode cX9_owedOverOrders 34 = .ok (.iload 6, 2) := by decide +kernel
theorem dX9_owedOverOrders_36 : decode cX9_owedOverOrders 36 = .ok (.iload 5, 2) := by decide +kernel
theorem dX9_owedOverOrders_38 : decode cX9_owedOverOrders 38 = .ok (.iand, 1) := by decide +kernel
theorem dX9_owedOverOrders_39 : decode cX9_owedOverOrders 39 = .ok (.ifCond .ne 55, 3) := by decide +kernel
theorem dX9_owedOverOrders_42 : decode cX9_owedOverOrders 42 = .ok (.iload 6, 2) := by decide +kernel
theorem dX9_owedOverOrders_44 : decode cX9_owedOverOrders 44 = .ok (.invokestatic 44, 3) := by decide +kernel
theorem dX9_owedOverOrders_47 : decode cX9_owedOverOrders 47 = .ok (.istore 7, 2) := by decide +kernel
theorem dX9_owedOverOrders_49 : decode cX9_owedOverOrders 49 = .ok (.iload 7, 2) := by decide +kernel
theorem dX9_owedOverOrders_51 : decode cX9_owedOverOrders 51 = .ok (.invokestatic 71, 3) := by decide +kernel
theorem dX9_owedOverOrders_54 : decode cX9_owedOverOrders 54 = .ok (.aload_n 1, 1) := by decide +kernel
theorem dX9_owedOverOrders_55 : decode cX9_owedOverOrders 55 = .ok (.getfield 29, 3) := by decide +kernel
theorem dX9_owedOverOrders_58 : decode cX9_owedOverOrders 58 = .ok (.iconst 1, 1) := by decide +kernel
theorem dX9_owedOverOrders_59 : decode cX9_owedOverOrders 59 = .ok (.isub, 1) := by decide +kernel
theorem dX9_owedOverOrders_60 : decode cX9_owedOverOrders 60 = .ok (.iload 7, 2) := by decide +kernel
theorem dX9_owedOverOrders_62 : decode cX9_owedOverOrders 62 = .ok (.isub, 1) := by decide +kernel
theorem dX9_owedOverOrders_63 : decode cX9_owedOverOrders 63 = .ok (.invokestatic 71, 3) := by decide +kernel
theorem dX9_owedOverOrders_66 : decode cX9_owedOverOrders 66 = .ok (.lmul, 1) := by decide +kernel
theorem dX9_owedOverOrders_67 : decode cX9_owedOverOrders 67 = .ok (.lstore 8, 2) := by decide +kernel
theorem dX9_owedOverOrders_69 : decode cX9_owedOverOrders 69 = .ok (.lload_n 3, 1) := by decide +kernel
theorem dX9_owedOverOrders_70 : decode cX9_owedOverOrders 70 = .ok (.lload 8, 2) := by decide +kernel
theorem dX9_owedOverOrders_72 : decode cX9_owedOverOrders 72 = .ok (.aload_n 0, 1) := by decide +kernel
theorem dX9_owedOverOrders_73 : decode cX9_owedOverOrders 73 = .ok (.getfield 22, 3) := by decide +kernel
theorem dX9_owedOverOrders_76 : decode cX9_owedOverOrders 76 = .ok (.iload 6, 2) := by decide +kernel
theorem dX9_owedOverOrders_78 : decode cX9_owedOverOrders 78 = .ok (.iload 5, 2) := by decide +kernel
theorem dX9_owedOverOrders_80 : decode cX9_owedOverOrders 80 = .ok (.ior, 1) := by decide +kernel
theorem dX9_owedOverOrders_81 : decode cX9_owedOverOrders 81 = .ok (.iaload, 1) := by decide +kernel
theorem dX9_owedOverOrders_82 : decode cX9_owedOverOrders 82 = .ok (.aload_n 0, 1) := by decide +kernel
theorem dX9_owedOverOrders_83 : decode cX9_owedOverOrders 83 = .ok (.getfield 22, 3) := by decide +kernel
theorem dX9_owedOverOrders_86 : decode cX9_owedOverOrders 86 = .ok (.iload 6, 2) := by decide +kernel
theorem dX9_owedOverOrders_88 : decode cX9_owedOverOrders 88 = .ok (.iaload, 1) := by decide +kernel
theorem dX9_owedOverOrders_89 : decode cX9_owedOverOrders 89 = .ok (.isub, 1) := by decide +kernel
theorem dX9_owedOverOrders_90 : decode cX9_owedOverOrders 90 = .ok (.i2l, 1) := by decide +kernel
theorem dX9_owedOverOrders_91 : decode cX9_owedOverOrders 91 = .ok (.lmul, 1) := by decide +kernel
theorem dX9_owedOverOrders_92 : decode cX9_owedOverOrders 92 = .ok (.ladd, 1) := by decide +kernel
theorem dX9_owedOverOrders_93 : decode cX9_owedOverOrders 93 = .ok (.lstore_n 3, 1) := by decide +kernel
theorem dX9_owedOverOrders_94 : decode cX9_owedOverOrders 94 = .ok (.iinc 6 1, 3) := by decide +kernel
theorem dX9_owedOverOrders_97 : decode cX9_owedOverOrders 97 = .ok (.goto (-82), 3) := by decide +kernel
theorem dX9_owedOverOrders_100 : decode cX9_owedOverOrders 100 = .ok (.lload_n 3, 1) := by decide +kernel
theorem dX9_owedOverOrders_101 : decode cX9_owedOverOrders 101 = .ok (.lreturn, 1) := by decide +kernel
theorem dX9_firstWronged_0 : decode cX9_firstWronged 0 = .ok (.aload_n 0, 1) := by decide +kernel
theorem dX9_firstWronged_1 : decode cX9_firstWronged 1 = .ok (.aload_n 1, 1) := by decide +kernel
theorem dX9_firstWronged_2 : decode cX9_firstWronged 2 = .ok (.invokevirtual 67, 3) := by decide +kernel
theorem dX9_firstWronged_5 : decode cX9_firstWronged 5 = .ok (.iconst 1, 1) := by decide +kernel
theorem dX9_firstWronged_6 : decode cX9_firstWronged 6 = .ok (.istore 4, 2) := by decide +kernel
theorem dX9_firstWronged_8 : decode cX9_firstWronged 8 = .ok (.iload 4, 2) := by decide +kernel
theorem dX9_firstWronged_10 : decode cX9_firstWronged 10 = .ok (.aload_n 0, 1) := by decide +kernel
theorem dX9_firstWronged_11 : decode cX9_firstWronged 11 = .ok (.getfield 22, 3) := by decide +kernel
theorem dX9_firstWronged_14 : decode cX9_firstWronged 14 = .ok (.arraylength, 1) := by decide +kernel
theorem dX9_firstWronged_15 : decode cX9_firstWronged 15 = .ok (.if_icmp .ge 78, 3) := by decide +kernel
theorem dX9_firstWronged_18 : decode cX9_firstWronged 18 = .ok (.iload 4, 2) := by decide +kernel
theorem dX9_firstWronged_20 : decode cX9_firstWronged 20 = .ok (.aload_n 1, 1) := by decide +kernel
theorem dX9_firstWronged_21 : decode cX9_firstWronged 21 = .ok (.invokevirtual 59, 3) := by decide +kernel
theorem dX9_firstWronged_24 : decode cX9_firstWronged 24 = .ok (.if_icmp .gt 69, 3) := by decide +kernel
theorem dX9_firstWronged_27 : decode cX9_firstWronged 27 = .ok (.lconst 0, 1) := by decide +kernel
theorem dX9_firstWronged_28 : decode cX9_firstWronged 28 = .ok (.lstore 5, 2) := by decide +kernel
theorem dX9_firstWronged_30 : decode cX9_firstWronged 30 = .ok (.iconst 0, 1) := by decide +kernel
theorem dX9_firstWronged_31 : decode cX9_firstWronged 31 = .ok (.istore 7, 2) := by decide +kernel
theorem dX9_firstWronged_33 : decode cX9_firstWronged 33 = .ok (.iload 7, 2) := by decide +kernel
theorem dX9_firstWronged_35 : decode cX9_firstWronged 35 = .ok (.aload_n 1, 1) := by decide +kernel
theorem dX9_firstWronged_36 : decode cX9_firstWronged 36 = .ok (.getfield 29, 3) := by decide +kernel
theorem dX9_firstWronged_39 : decode cX9_firstWronged 39 = .ok (.if_icmp .ge 31, 3) := by decide +kernel
theorem dX9_firstWronged_42 : decode cX9_firstWronged 42 = .ok (.iload 4, 2) := by decide +kernel
theorem dX9_firstWronged_44 : decode cX9_firstWronged 44 = .ok (.iload 7, 2) := by decide +kernel
theorem dX9_firstWronged_46 : decode cX9_firstWronged 46 = .ok (.ishr, 1) := by decide +kernel
theorem dX9_firstWronged_47 : decode cX9_firstWronged 47 = .ok (.iconst 1, 1) := by decide +kernel
theorem dX9_firstWronged_48 : decode cX9_firstWronged 48 = .ok (.iand, 1) := by decide +kernel
theorem dX9_firstWronged_49 : decode cX9_firstWronged 49 = .ok (.ifCond .eq 15, 3) := by decide +kernel
theorem dX9_firstWronged_52 : decode cX9_firstWronged 52 = .ok (.lload 5, 2) := by decide +kernel
theorem dX9_firstWronged_54 : decode cX9_firstWronged 54 = .ok (.aload_n 2, 1) := by decide +kernel
theorem dX9_firstWronged_55 : decode cX9_firstWronged 55 = .ok (.iload_n 3, 1) := by decide +kernel
theorem dX9_firstWronged_56 : decode cX9_firstWronged 56 = .ok (.iload 7, 2) := by decide +kernel
theorem dX9_firstWronged_58 : decode cX9_firstWronged 58 = .ok (.invokevirtual 75, 3) := by decide +kernel
theorem dX9_firstWronged_61 : decode cX9_firstWronged 61 = .ok (.ladd, 1) := by decide +kernel
theorem dX9_firstWronged_62 : decode cX9_firstWronged 62 = .ok (.lstore 5, 2) := by decide +kernel
theorem dX9_firstWronged_64 : decode cX9_firstWronged 64 = .ok (.iinc 7 1, 3) := by decide +kernel
theorem dX9_firstWronged_67 : decode cX9_firstWronged 67 = .ok (.goto (-34), 3) := by decide +kernel
theorem dX9_firstWronged_70 : decode cX9_firstWronged 70 = .ok (.aload_n 0, 1) := by decide +kernel
theorem dX9_firstWronged_71 : decode cX9_firstWronged 71 = .ok (.getfield 22, 3) := by decide +kernel
theorem dX9_firstWronged_74 : decode cX9_firstWronged 74 = .ok (.iload 4, 2) := by decide +kernel
theorem dX9_firstWronged_76 : decode cX9_firstWronged 76 = .ok (.iaload, 1) := by decide +kernel
theorem dX9_firstWronged_77 : decode cX9_firstWronged 77 = .ok (.i2l, 1) := by decide +kernel
theorem dX9_firstWronged_78 : decode cX9_firstWronged 78 = .ok (.lload 5, 2) := by decide +kernel
theorem dX9_firstWronged_80 : decode cX9_firstWronged 80 = .ok (.lcmp, 1) := by decide +kernel
theorem dX9_firstWronged_81 : decode cX9_firstWronged 81 = .ok (.ifCond .le 6, 3) := by decide +kernel
theorem dX9_firstWronged_84 : decode cX9_firstWronged 84 = .ok (.iload 4, 2) := by decide +kernel
theorem dX9_firstWronged_86 : decode cX9_firstWronged 86 = .ok (.ireturn, 1) := by decide +kernel
theorem dX9_firstWronged_87 : decode cX9_firstWronged 87 = .ok (.iinc 4 1, 3) := by decide +kernel
theorem dX9_firstWronged_90 : decode cX9_firstWronged 90 = .ok (.goto (-82), 3) := by decide +kernel
theorem dX9_firstWronged_93 : decode cX9_firstWronged 93 = .ok (.iconst (-1), 1) := by decide +kernel
theorem dX9_firstWronged_94 : decode cX9_firstWronged 94 = .ok (.ireturn, 1) := by decide +kernel
theorem dX10_init_0 : decode cX10_init 0 = .ok (.aload_n 0, 1) := by decide +kernel
theorem dX10_init_1 : decode cX10_init 1 = .ok (.invokespecial 3, 3) := by decide +kernel
theorem dX10_init_4 : decode cX10_init 4 = .ok (.aload_n 0, 1) := by decide +kernel
theorem dX10_init_5 : decode cX10_init 5 = .ok (.sipush 160, 3) := by decide +kernel
theorem dX10_init_8 : decode cX10_init 8 = .ok (.newarray .long, 2) := by decide +kernel
theorem dX10_init_10 : decode cX10_init 10 = .ok (.putfield 11, 3) := by decide +kernel
theorem dX10_init_13 : decode cX10_init 13 = .ok (.aload_n 0, 1) := by decide +kernel
theorem dX10_init_14 : decode cX10_init 14 = .ok (.iconst 4, 1) := by decide +kernel
theorem dX10_init_15 : decode cX10_init 15 = .ok (.newarray .int, 2) := by decide +kernel
theorem dX10_init_17 : decode cX10_init 17 = .ok (.putfield 15, 3) := by decide +kernel
theorem dX10_init_20 : decode cX10_init 20 = .ok (.aload_n 0, 1) := by decide +kernel
theorem dX10_init_21 : decode cX10_init 21 = .ok (.iconst 4, 1) := by decide +kernel
theorem dX10_init_22 : decode cX10_init 22 = .ok (.newarray .int, 2) := by decide +kernel
theorem dX10_init_24 : decode cX10_init 24 = .ok (.putfield 19, 3) := by decide +kernel
theorem dX10_init_27 : decode cX10_init 27 = .ok (.aload_n 0, 1) := by decide +kernel
theorem dX10_init_28 : decode cX10_init 28 = .ok (.getfield 15, 3) := by decide +kernel
theorem dX10_init_31 : decode cX10_init 31 = .ok (.iconst (-1), 1) := by decide +kernel
theorem dX10_init_32 : decode cX10_init 32 = .ok (.invokestatic 22, 3) := by decide +kernel
theorem dX10_init_35 : decode cX10_init 35 = .ok (.return_, 1) := by decide +kernel
theorem dX10_lay_0 : decode cX10_lay 0 = .ok (.aload_n 0, 1) := by decide +kernel
theorem dX10_lay_1 : decode cX10_lay 1 = .ok (.getfield 15, 3) := by decide +kernel
theorem dX10_lay_4 : decode cX10_lay 4 = .ok (.iload_n 1, 1) := by decide +kernel
theorem dX10_lay_5 : decode cX10_lay 5 = .ok (.iload_n 3, 1) := by decide +kernel
theorem dX10_lay_6 : decode cX10_lay 6 = .ok (.iastore, 1) := by decide +kernel
theorem dX10_lay_7 : decode cX10_lay 7 = .ok (.aload_n 0, 1) := by decide +kernel
theorem dX10_lay_8 : decode cX10_lay 8 = .ok (.getfield 19, 3) := by decide +kernel
theorem dX10_lay_11 : decode cX10_lay 11 = .ok (.iload_n 1, 1) := by decide +kernel
theorem dX10_lay_12 : decode cX10_lay 12 = .ok (.iload_n 2, 1) := by decide +kernel
theorem dX10_lay_13 : decode cX10_lay 13 = .ok (.iastore, 1) := by decide +kernel
theorem dX10_lay_14 : decode cX10_lay 14 = .ok (.iconst 0, 1) := by decide +kernel
theorem dX10_lay_15 : decode cX10_lay 15 = .ok (.istore 4, 2) := by decide +kernel
theorem dX10_lay_17 : decode cX10_lay 17 = .ok (.iload 4, 2) := by decide +kernel
theorem dX10_lay_19 : decode cX10_lay 19 = .ok (.bipush 40, 2) := by decide +kernel
theorem dX10_lay_21 : decode cX10_lay 21 = .ok (.if_icmp .ge 22, 3) := by decide +kernel
theorem dX10_lay_24 : decode cX10_lay 24 = .ok (.aload_n 0, 1) := by decide +kernel
theorem dX10_lay_25 : decode cX10_lay 25 = .ok (.getfield 11, 3) := by decide +kernel
theorem dX10_lay_28 : decode cX10_lay 28 = .ok (.iload_n 1, 1) := by decide +kernel
theorem dX10_lay_29 : decode cX10_lay 29 = .ok (.bipush 40, 2) := by decide +kernel
theorem dX10_lay_31 : decode cX10_lay 31 = .ok (.imul, 1) := by decide +kernel
theorem dX10_lay_32 : decode cX10_lay 32 = .ok (.iload 4, 2) := by decide +kernel
theorem dX10_lay_34 : decode cX10_lay 34 = .ok (.iadd, 1) := by decide +kernel
theorem dX10_lay_35 : decode cX10_lay 35 = .ok (.lconst 0, 1) := by decide +kernel
theorem dX10_lay_36 : decode cX10_lay 36 = .ok (.lastore, 1) := by decide +kernel
theorem dX10_lay_37 : decode cX10_lay 37 = .ok (.iinc 4 1, 3) := by decide +kernel
theorem dX10_lay_40 : decode cX10_lay 40 = .ok (.goto (-23), 3) := by decide +kernel
theorem dX10_lay_43 : decode cX10_lay 43 = .ok (.return_, 1) := by decide +kernel
theorem dX10_put_0 : decode cX10_put 0 = .ok (.aload_n 0, 1) := by decide +kernel
theorem dX10_put_1 : decode cX10_put 1 = .ok (.getfield 19, 3) := by decide +kernel
theorem dX10_put_4 : decode cX10_put 4 = .ok (.iload_n 1, 1) := by decide +kernel
theorem dX10_put_5 : decode cX10_put 5 = .ok (.iaload, 1) := by decide +kernel
theorem dX10_put_6 : decode cX10_put 6 = .ok (.lload_n 3, 1) := by decide +kernel
theorem dX10_put_7 : decode cX10_put 7 = .ok (.invokestatic 28, 3) := by decide +kernel
theorem dX10_put_10 : decode cX10_put 10 = .ok (.lstore 5, 2) := by decide +kernel
theorem dX10_put_12 : decode cX10_put 12 = .ok (.aload_n 0, 1) := by decide +kernel
theorem dX10_put_13 : decode cX10_put 13 = .ok (.getfield 11, 3) := by decide +kernel
theorem dX10_put_16 : decode cX10_put 16 = .ok (.iload_n 1, 1) := by decide +kernel
theorem dX10_put_17 : decode cX10_put 17 = .ok (.bipush 40, 2) := by decide +kernel
theorem dX10_put_19 : decode cX10_put 19 = .ok (.imul, 1) := by decide +kernel
theorem dX10_put_20 : decode cX10_put 20 = .ok (.iload_n 2, 1) := by decide +kernel
theorem dX10_put_21 : decode cX10_put 21 = .ok (.iadd, 1) := by decide +kernel
theorem dX10_put_22 : decode cX10_put 22 = .ok (.lload 5, 2) := by decide +kernel
theorem dX10_put_24 : decode cX10_put 24 = .ok (.lastore, 1) := by decide +kernel
theorem dX10_put_25 : decode cX10_put 25 = .ok (.lload 5, 2) := by decide +kernel
theorem dX10_put_27 : decode cX10_put 27 = .ok (.lreturn, 1) := by decide +kernel
theorem dX10_numberAt_0 : decode cX10_numberAt 0 = .ok (.aload_n 0, 1) := by decide +kernel
theorem dX10_numberAt_1 : decode cX10_numberAt 1 = .ok (.getfield 11, 3) := by decide +kernel
theorem dX10_numberAt_4 : decode cX10_numberAt 4 = .ok (.iload_n 1, 1) := by decide +kernel
theorem dX10_numberAt_5 : decode cX10_numberAt 5 = .ok (.bipush 40, 2) := by decide +kernel
theorem dX10_numberAt_7 : decode cX10_numberAt 7 = .ok (.imul, 1) := by decide +kernel
theorem dX10_numberAt_8 : decode cX10_numberAt 8 = .ok (.iload_n 2, 1) := by decide +kernel
theorem dX10_numberAt_9 : decode cX10_numberAt 9 = .ok (.iadd, 1) := by decide +kernel
theorem dX10_numberAt_10 : decode cX10_numberAt 10 = .ok (.laload, 1) := by decide +kernel
theorem dX10_numberAt_11 : decode cX10_numberAt 11 = .ok (.lreturn, 1) := by decide +kernel
theorem dX10_cutTo_0 : decode cX10_cutTo 0 = .ok (.iload_n 0, 1) := by decide +kernel
theorem dX10_cutTo_1 : decode cX10_cutTo 1 = .ok (.tableswitch 41 0 2 #[27, 32, 37], 27) := by decide +kernel
theorem dX10_cutTo_28 : decode cX10_cutTo 28 = .ok (.lload_n 1, 1) := by decide +kernel
theorem dX10_cutTo_29 : decode cX10_cutTo 29 = .ok (.l2i, 1) := by decide +kernel
theorem dX10_cutTo_30 : decode cX10_cutTo 30 = .ok (.i2b, 1) := by decide +kernel
theorem dX10_cutTo_31 : decode cX10_cutTo 31 = .ok (.i2l, 1) := by decide +kernel
theorem dX10_cutTo_32 : decode cX10_cutTo 32 = .ok (.lreturn, 1) := by decide +kernel
theorem dX10_cutTo_33 : decode cX10_cutTo 33 = .ok (.lload_n 1, 1) := by decide +kernel
theorem dX10_cutTo_34 : decode cX10_cutTo 34 = .ok (.l2i, 1) := by decide +kernel
theorem dX10_cutTo_35 : decode cX10_cutTo 35 = .ok (.i2s, 1) := by decide +kernel
theorem dX10_cutTo_36 : decode cX10_cutTo 36 = .ok (.i2l, 1) := by decide +kernel
theorem dX10_cutTo_37 : decode cX10_cutTo 37 = .ok (.lreturn, 1) := by decide +kernel
theorem dX10_cutTo_38 : decode cX10_cutTo 38 = .ok (.lload_n 1, 1) := by decide +kernel
theorem dX10_cutTo_39 : decode cX10_cutTo 39 = .ok (.l2i, 1) := by decide +kernel
theorem dX10_cutTo_40 : decode cX10_cutTo 40 = .ok (.i2l, 1) := by decide +kernel
theorem dX10_cutTo_41 : decode cX10_cutTo 41 = .ok (.lreturn, 1) := by decide +kernel
theorem dX10_cutTo_42 : decode cX10_cutTo 42 = .ok (.lload_n 1, 1) := by decide +kernel
theorem dX10_cutTo_43 : decode cX10_cutTo 43 = .ok (.lreturn, 1) := by decide +kernel
theorem dX11_init_0 : decode cX11_init 0 = .ok (.aload_n 0, 1) := by decide +kernel
theorem dX11_init_1 : decode cX11_init 1 = .ok (.invokespecial 3, 3) := by decide +kernel
theorem dX11_init_4 : decode cX11_init 4 = .ok (.aload_n 0, 1) := by decide +kernel
theorem dX11_init_5 : decode cX11_init 5 = .ok (.sipush 800, 3) := by decide +kernel
theorem dX11_init_8 : decode cX11_init 8 = .ok (.newarray .byte, 2) := by decide +kernel
theorem dX11_init_10 : decode cX11_init 10 = .ok (.putfield 9, 3) := by decide +kernel
theorem dX11_init_13 : decode cX11_init 13 = .ok (.aload_n 0, 1) := by decide +kernel
theorem dX11_init_14 : decode cX11_init 14 = .ok (.iconst 0, 1) := by decide +kernel
theorem dX11_init_15 : decode cX11_init 15 = .ok (.putfield 13, 3) := by decide +kernel
theorem dX11_init_18 : decode cX11_init 18 = .ok (.aload_n 0, 1) := by decide +kernel
theorem dX11_init_19 : decode cX11_init 19 = .ok (.iconst 0, 1) := by decide +kernel
theorem dX11_init_20 : decode cX11_init 20 = .ok (.putfield 17, 3) := by decide +kernel
theorem dX11_init_23 : decode cX11_init 23 = .ok (.aload_n 0, 1) := by decide +kernel
theorem dX11_init_24 : decode cX11_init 24 = .ok (.iconst (-1), 1) := by decide +kernel
theorem dX11_init_25 : decode cX11_init 25 = .ok (.putfield 20, 3) := by decide +kernel
theorem dX11_init_28 : decode cX11_init 28 = .ok (.aload_n 0, 1) := by decide +kernel
theorem dX11_init_29 : decode cX11_init 29 = .ok (.new 23, 3) := by decide +kernel
theorem dX11_init_32 : decode cX11_init 32 = .ok (.dup, 1) := by decide +kernel
theorem dX11_init_33 : decode cX11_init 33 = .ok (.invokespecial 25, 3) := by decide +kernel
theorem dX11_init_36 : decode cX11_init 36 = .ok (.putfield 26, 3) := by decide +kernel
theorem dX11_init_39 : decode cX11_init 39 = .ok (.aload_n 0, 1) := by decide +kernel
theorem dX11_init_40 : decode cX11_init 40 = .ok (.new 30, 3) := by decide +kernel
theorem dX11_init_43 : decode cX11_init 43 = .ok (.dup, 1) := by decide +kernel
theorem dX11_init_44 : decode cX11_init 44 = .ok (.invokespecial 32, 3) := by decide +kernel
theorem dX11_init_47 : decode cX11_init 47 = .ok (.putfield 33, 3) := by decide +kernel
theorem dX11_init_50 : decode cX11_init 50 = .ok (.aload_n 0, 1) := by decide +kernel
theorem dX11_init_51 : decode cX11_init 51 = .ok (.iconst 3, 1) := by decide +kernel
theorem dX11_init_52 : decode cX11_init 52 = .ok (.anewarray 23, 3) := by decide +kernel
theorem dX11_init_55 : decode cX11_init 55 = .ok (.putfield 37, 3) := by decide +kernel
theorem dX11_init_58 : decode cX11_init 58 = .ok (.aload_n 0, 1) := by decide +kernel
theorem dX11_init_59 : decode cX11_init 59 = .ok (.iconst 3, 1) := by decide +kernel
theorem dX11_init_60 : decode cX11_init 60 = .ok (.anewarray 30, 3) := by decide +kernel
theorem dX11_init_63 : decode cX11_init 63 = .ok (.putfield 41, 3) := by decide +kernel
theorem dX11_init_66 : decode cX11_init 66 = .ok (.aload_n 0, 1) := by decide +kernel
theorem dX11_init_67 : decode cX11_init 67 = .ok (.lconst 0, 1) := by decide +kernel
theorem dX11_init_68 : decode cX11_init 68 = .ok (.putfield 45, 3) := by decide +kernel
theorem dX11_init_71 : decode cX11_init 71 = .ok (.aload_n 0, 1) := by decide +kernel
theorem dX11_init_72 : decode cX11_init 72 = .ok (.lconst 0, 1) := by decide +kernel
theorem dX11_init_73 : decode cX11_init 73 = .ok (.putfield 49, 3) := by decide +kernel
theorem dX11_init_76 : decode cX11_init 76 = .ok (.aload_n 0, 1) := by decide +kernel
theorem dX11_init_77 : decode cX11_init 77 = .ok (.new 52, 3) := by decide +kernel
theorem dX11_init_80 : decode cX11_init 80 = .ok (.dup, 1) := by decide +kernel
theorem dX11_init_81 : decode cX11_init 81 = .ok (.invokespecial 54, 3) := by decide +kernel
theorem dX11_init_84 : decode cX11_init 84 = .ok (.putfield 55, 3) := by decide +kernel
theorem dX11_init_87 : decode cX11_init 87 = .ok (.aload_n 0, 1) := by decide +kernel
theorem dX11_init_88 : decode cX11_init 88 = .ok (.bipush 16, 2) := by decide +kernel
theorem dX11_init_90 : decode cX11_init 90 = .ok (.newarray .int, 2) := by decide +kernel
theorem dX11_init_92 : decode cX11_init 92 = .ok (.putfield 59, 3) := by decide +kernel
theorem dX11_init_95 : decode cX11_init 95 = .ok (.aload_n 0, 1) := by decide +kernel
theorem dX11_init_96 : decode cX11_init 96 = .ok (.new 63, 3) := by decide +kernel
theorem dX11_init_99 : decode cX11_init 99 = .ok (.dup, 1) := by decide +kernel
theorem dX11_init_100 : decode cX11_init 100 = .ok (.invokespecial 65, 3) := by decide +kernel
theorem dX11_init_103 : decode cX11_init 103 = .ok (.putfield 66, 3) := by decide +kernel
theorem dX11_init_106 : decode cX11_init 106 = .ok (.aload_n 0, 1) := by decide +kernel
theorem dX11_init_107 : decode cX11_init 107 = .ok (.new 70, 3) := by decide +kernel
theorem dX11_init_110 : decode cX11_init 110 = .ok (.dup, 1) := by decide +kernel
theorem dX11_init_111 : decode cX11_init 111 = .ok (.invokespecial 72, 3) := by decide +kernel
theorem dX11_init_114 : decode cX11_init 114 = .ok (.putfield 73, 3) := by decide +kernel
theorem dX11_init_117 : decode cX11_init 117 = .ok (.aload_n 0, 1) := by decide +kernel
theorem dX11_init_118 : decode cX11_init 118 = .ok (.new 77, 3) := by decide +kernel
theorem dX11_init_121 : decode cX11_init 121 = .ok (.dup, 1) := by decide +kernel
theorem dX11_init_122 : decode cX11_init 122 = .ok (.invokespecial 79, 3) := by decide +kernel
theorem dX11_init_125 : decode cX11_init 125 = .ok (.putfield 80, 3) := by decide +kernel
theorem dX11_init_128 : decode cX11_init 128 = .ok (.aload_n 0, 1) := by decide +kernel
theorem dX11_init_129 : decode cX11_init 129 = .ok (.new 84, 3) := by decide +kernel
theorem dX11_init_132 : decode cX11_init 132 = .ok (.dup, 1) := by decide +kernel
theorem dX11_init_133 : decode cX11_init 133 = .ok (.invokespecial 86, 3) := by decide +kernel
theorem dX11_init_136 : decode cX11_init 136 = .ok (.putfield 87, 3) := by decide +kernel
theorem dX11_init_139 : decode cX11_init 139 = .ok (.aload_n 0, 1) := by decide +kernel
theorem dX11_init_140 : decode cX11_init 140 = .ok (.new 91, 3) := by decide +kernel
theorem dX11_init_143 : decode cX11_init 143 = .ok (.dup, 1) := by decide +kernel
theorem dX11_init_144 : decode cX11_init 144 = .ok (.invokespecial 93, 3) := by decide +kernel
theorem dX11_init_147 : decode cX11_init 147 = .ok (.putfield 94, 3) := by decide +kernel
theorem dX11_init_150 : decode cX11_init 150 = .ok (.aload_n 0, 1) := by decide +kernel
theorem dX11_init_151 : decode cX11_init 151 = .ok (.aconst_null, 1) := by decide +kernel
theorem dX11_init_152 : decode cX11_init 152 = .ok (.putfield 98, 3) := by decide +kernel
theorem dX11_init_155 : decode cX11_init 155 = .ok (.return_, 1) := by decide +kernel
theorem dX11_feed_0 : decode cX11_feed 0 = .ok (.aload_n 0, 1) := by decide +kernel
theorem dX11_feed_1 : decode cX11_feed 1 = .ok (.getfield 13, 3) := by decide +kernel
theorem dX11_feed_4 : decode cX11_feed 4 = .ok (.bipush 20, 2) := by decide +kernel
theorem dX11_feed_6 : decode cX11_feed 6 = .ok (.iadd, 1) := by decide +kernel
theorem dX11_feed_7 : decode cX11_feed 7 = .ok (.sipush 800, 3) := by decide +kernel
theorem dX11_feed_10 : decode cX11_feed 10 = .ok (.if_icmp .le 5, 3) := by decide +kernel
theorem dX11_feed_13 : decode cX11_feed 13 = .ok (.iconst (-1), 1) := by decide +kernel
theorem dX11_feed_14 : decode cX11_feed 14 = .ok (.ireturn, 1) := by decide +kernel
theorem dX11_feed_15 : decode cX11_feed 15 = .ok (.aload_n 0, 1) := by decide +kernel
theorem dX11_feed_16 : decode cX11_feed 16 = .ok (.iload_n 1, 1) := by decide +kernel
theorem dX11_feed_17 : decode cX11_feed 17 = .ok (.invokevirtual 102, 3) := by decide +kernel
theorem dX11_feed_20 : decode cX11_feed 20 = .ok (.aload_n 0, 1) := by decide +kernel
theorem dX11_feed_21 : decode cX11_feed 21 = .ok (.iload_n 2, 1) := by decide +kernel
theorem dX11_feed_22 : decode cX11_feed 22 = .ok (.invokevirtual 102, 3) := by decide +kernel
theorem dX11_feed_25 : decode cX11_feed 25 = .ok (.aload_n 0, 1) := by decide +kernel
theorem dX11_feed_26 : decode cX11_feed 26 = .ok (.iload_n 3, 1) := by decide +kernel
theorem dX11_feed_27 : decode cX11_feed 27 = .ok (.invokevirtual 102, 3) := by decide +kernel
theorem dX11_feed_30 : decode cX11_feed 30 = .ok (.aload_n 0, 1) := by decide +kernel
theorem dX11_feed_31 : decode cX11_feed 31 = .ok (.iload 4, 2) := by decide +kernel
theorem dX11_feed_33 : decode cX11_feed 33 = .ok (.invokevirtual 102, 3) := by decide +kernel
theorem dX11_feed_36 : decode cX11_feed 36 = .ok (.aload_n 0, 1) := by decide +kernel
theorem dX11_feed_37 : decode cX11_feed 37 = .ok (.iload 5, 2) := by decide +kernel
theorem dX11_feed_39 : decode cX11_feed 39 = .ok (.invokevirtual 102, 3) := by decide +kernel
theorem dX11_feed_42 : decode cX11_feed 42 = .ok (.aload_n 0, 1) := by decide +kernel
theorem dX11_feed_43 : decode cX11_feed 43 = .ok (.getfield 13, 3) := by decide +kernel
theorem dX11_feed_46 : decode cX11_feed 46 = .ok (.ireturn, 1) := by decide +kernel
theorem dX11_house_0 : decode cX11_house 0 = .ok (.iload_n 1, 1) := by decide +kernel
theorem dX11_house_1 : decode cX11_house 1 = .ok (.ifCond .lt 11, 3) := by decide +kernel
theorem dX11_house_4 : decode cX11_house 4 = .ok (.iload_n 1, 1) := by decide +kernel
theorem dX11_house_5 : decode cX11_house 5 = .ok (.aload_n 0, 1) := by decide +kernel
theorem dX11_house_6 : decode cX11_house 6 = .ok (.getfield 13, 3) := by decide +kernel
theorem dX11_house_9 : decode cX11_house 9 = .ok (.if_icmp .le 13, 3) := by decide +kernel
theorem dX11_house_12 : decode cX11_house 12 = .ok (.new 106, 3) := by decide +kernel
theorem dX11_house_15 : decode cX11_house 15 = .ok (.dup, 1) := by decide +kernel
theorem dX11_house_16 : decode cX11_house 16 = .ok (.ldc 108, 2) := by decide +kernel
theorem dX11_house_18 : decode cX11_house 18 = .ok (.invokespecial 110, 3) := by decide +kernel
theorem dX11_house_21 : decode cX11_house 21 = .ok (.athrow, 1) := by decide +kernel
theorem dX11_house_22 : decode cX11_house 22 = .ok (.new 113, 3) := by decide +kernel
theorem dX11_house_25 : decode cX11_house 25 = .ok (.dup, 1) := by decide +kernel
theorem dX11_house_26 : decode cX11_house 26 = .ok (.aload_n 0, 1) := by decide +kernel
theorem dX11_house_27 : decode cX11_house 27 = .ok (.getfield 9, 3) := by decide +kernel
theorem dX11_house_30 : decode cX11_house 30 = .ok (.iload_n 1, 1) := by decide +kernel
theorem dX11_house_31 : decode cX11_house 31 = .ok (.invokespecial 115, 3) := by decide +kernel
theorem dX11_house_34 : decode cX11_house 34 = .ok (.astore_n 2, 1) := by decide +kernel
theorem dX11_house_35 : decode cX11_house 35 = .ok (.aload_n 2, 1) := by decide +kernel
theorem dX11_house_36 : decode cX11_house 36 = .ok (.invokevirtual 118, 3) := by decide +kernel
theorem dX11_house_39 : decode cX11_house 39 = .ok (.astore_n 3, 1) := by decide +kernel
theorem dX11_house_40 : decode cX11_house 40 = .ok (.aload_n 0, 1) := by decide +kernel
theorem dX11_house_41 : decode cX11_house 41 = .ok (.iconst 0, 1) := by decide +kernel
theorem dX11_house_42 : decode cX11_house 42 = .ok (.putfield 13, 3) := by decide +kernel
theorem dX11_house_45 : decode cX11_house 45 = .ok (.aload_n 0, 1) := by decide +kernel
theorem dX11_house_46 : decode cX11_house 46 = .ok (.aload_n 2, 1) := by decide +kernel
theorem dX11_house_47 : decode cX11_house 47 = .ok (.getfield 122, 3) := by decide +kernel
theorem dX11_house_50 : decode cX11_house 50 = .ok (.putfield 17, 3) := by decide +kernel
theorem dX11_house_53 : decode cX11_house 53 = .ok (.aload_n 0, 1) := by decide +kernel
theorem dX11_house_54 : decode cX11_house 54 = .ok (.aload_n 2, 1) := by decide +kernel
theorem dX11_house_55 : decode cX11_house 55 = .ok (.getfield 125, 3) := by decide +kernel
theorem dX11_house_58 : decode cX11_house 58 = .ok (.putfield 20, 3) := by decide +kernel
theorem dX11_house_61 : decode cX11_house 61 = .ok (.aload_n 0, 1) := by decide +kernel
theorem dX11_house_62 : decode cX11_house 62 = .ok (.getfield 17, 3) := by decide +kernel
theorem dX11_house_65 : decode cX11_house 65 = .ok (.ifCond .eq 11, 3) := by decide +kernel
theorem dX11_house_68 : decode cX11_house 68 = .ok (.bipush (-10), 2) := by decide +kernel
theorem dX11_house_70 : decode cX11_house 70 = .ok (.aload_n 0, 1) := by decide +kernel
theorem dX11_house_71 : decode cX11_house 71 = .ok (.getfield 17, 3) := by decide +kernel
theorem dX11_house_74 : decode cX11_house 74 = .ok (.isub, 1) := by decide +kernel
theorem dX11_house_75 : decode cX11_house 75 = .ok (.ireturn, 1) := by decide +kernel
theorem dX11_house_76 : decode cX11_house 76 = .ok (.aload_n 0, 1) := by decide +kernel
theorem dX11_house_77 : decode cX11_house 77 = .ok (.aload_n 3, 1) := by decide +kernel
theorem dX11_house_78 : decode cX11_house 78 = .ok (.putfield 26, 3) := by decide +kernel
theorem dX11_house_81 : decode cX11_house 81 = .ok (.aload_n 0, 1) := by decide +kernel
theorem dX11_house_82 : decode cX11_house 82 = .ok (.getfield 33, 3) := by decide +kernel
theorem dX11_house_85 : decode cX11_house 85 = .ok (.invokevirtual 126, 3) := by decide +kernel
theorem dX11_house_88 : decode cX11_house 88 = .ok (.aload_n 3, 1) := by decide +kernel
theorem dX11_house_89 : decode cX11_house 89 = .ok (.getfield 129, 3) := by decide +kernel
theorem dX11_house_92 : decode cX11_house 92 = .ok (.ireturn, 1) := by decide +kernel
theorem dX11_fault_0 : decode cX11_fault 0 = .ok (.iload_n 1, 1) := by decide +kernel
theorem dX11_fault_1 : decode cX11_fault 1 = .ok (.ifCond .ne 8, 3) := by decide +kernel
theorem dX11_fault_4 : decode cX11_fault 4 = .ok (.aload_n 0, 1) := by decide +kernel
theorem dX11_fault_5 : decode cX11_fault 5 = .ok (.getfield 17, 3) := by decide +kernel
theorem dX11_fault_8 : decode cX11_fault 8 = .ok (.ireturn, 1) := by decide +kernel
theorem dX11_fault_9 : decode cX11_fault 9 = .ok (.iload_n 1, 1) := by decide +kernel
theorem dX11_fault_10 : decode cX11_fault 10 = .ok (.iconst 1, 1) := by decide +kernel
theorem dX11_fault_11 : decode cX11_fault 11 = .ok (.if_icmp .ne 10, 3) := by decide +kernel
theorem dX11_fault_14 : decode cX11_fault 14 = .ok (.aload_n 0, 1) := by decide +kernel
theorem dX11_fault_15 : decode cX11_fault 15 = .ok (.getfield 20, 3) := by decide +kernel
theorem dX11_fault_18 : decode cX11_fault 18 = .ok (.goto 4, 3) := by decide +kernel
theorem dX11_fault_21 : decode cX11_fault 21 = .ok (.iconst (-1), 1) := by decide +kernel
theorem dX11_fault_22 : decode cX11_fault 22 = .ok (.ireturn, 1) := by decide +kernel
theorem dX11_pane_0 : decode cX11_pane 0 = .ok (.iload_n 1, 1) := by decide +kernel
theorem dX11_pane_1 : decode cX11_pane 1 = .ok (.ifCond .lt 14, 3) := by decide +kernel
theorem dX11_pane_4 : decode cX11_pane 4 = .ok (.iload_n 1, 1) := by decide +kernel
theorem dX11_pane_5 : decode cX11_pane 5 = .ok (.aload_n 0, 1) := by decide +kernel
theorem dX11_pane_6 : decode cX11_pane 6 = .ok (.getfield 26, 3) := by decide +kernel
theorem dX11_pane_9 : decode cX11_pane 9 = .ok (.getfield 132, 3) := by decide +kernel
theorem dX11_pane_12 : decode cX11_pane 12 = .ok (.if_icmp .lt 13, 3) := by decide +kernel
theorem dX11_pane_15 : decode cX11_pane 15 = .ok (.new 135, 3) := by decide +kernel
theorem dX11_pane_18 : decode cX11_pane 18 = .ok (.dup, 1) := by decide +kernel
theorem dX11_pane_19 : decode cX11_pane 19 = .ok (.ldc 137, 2) := by decide +kernel
theorem dX11_pane_21 : decode cX11_pane 21 = .ok (.invokespecial 139, 3) := by decide +kernel
theorem dX11_pane_24 : decode cX11_pane 24 = .ok (.athrow, 1) := by decide +kernel
theorem dX11_pane_25 : decode cX11_pane 25 = .ok (.iload_n 2, 1) := by decide +kernel
theorem dX11_pane_26 : decode cX11_pane 26 = .ok (.iconst 0, 1) := by decide +kernel
theorem dX11_pane_27 : decode cX11_pane 27 = .ok (.iconst 3, 1) := by decide +kernel
theorem dX11_pane_28 : decode cX11_pane 28 = .ok (.invokestatic 140, 3) := by decide +kernel
theorem dX11_pane_31 : decode cX11_pane 31 = .ok (.aload_n 0, 1) := by decide +kernel
theorem dX11_pane_32 : decode cX11_pane 32 = .ok (.getfield 26, 3) := by decide +kernel
theorem dX11_pane_35 : decode cX11_pane 35 = .ok (.getfield 144, 3) := by decide +kernel
theorem dX11_pane_38 : decode cX11_pane 38 = .ok (.iload_n 1, 1) := by decide +kernel
theorem dX11_pane_39 : decode cX11_pane 39 = .ok (.iconst 4, 1) := by decide +kernel
theorem dX11_pane_40 : decode cX11_pane 40 = .ok (.imul, 1) := by decide +kernel
theorem dX11_pane_41 : decode cX11_pane 41 = .ok (.iload_n 2, 1) := by decide +kernel
theorem dX11_pane_42 : decode cX11_pane 42 = .ok (.iadd, 1) := by decide +kernel
theorem dX11_pane_43 : decode cX11_pane 43 = .ok (.iaload, 1) := by decide +kernel
theorem dX11_pane_44 : decode cX11_pane 44 = .ok (.ireturn, 1) := by decide +kernel
theorem dX11_kind_0 : decode cX11_kind 0 = .ok (.aload_n 0, 1) := by decide +kernel
theorem dX11_kind_1 : decode cX11_kind 1 = .ok (.iload_n 1, 1) := by decide +kernel
theorem dX11_kind_2 : decode cX11_kind 2 = .ok (.invokevirtual 147, 3) := by decide +kernel
theorem dX11_kind_5 : decode cX11_kind 5 = .ok (.iload_n 2, 1) := by decide +kernel
theorem dX11_kind_6 : decode cX11_kind 6 = .ok (.iconst 0, 1) := by decide +kernel
theorem dX11_kind_7 : decode cX11_kind 7 = .ok (.iconst 1, 1) := by decide +kernel
theorem dX11_kind_8 : decode cX11_kind 8 = .ok (.invokestatic 140, 3) := by decide +kernel
theorem dX11_kind_11 : decode cX11_kind 11 = .ok (.aload_n 0, 1) := by decide +kernel
theorem dX11_kind_12 : decode cX11_kind 12 = .ok (.getfield 26, 3) := by decide +kernel
theorem dX11_kind_15 : decode cX11_kind 15 = .ok (.getfield 150, 3) := by decide +kernel
theorem dX11_kind_18 : decode cX11_kind 18 = .ok (.iload_n 1, 1) := by decide +kernel
theorem dX11_kind_19 : decode cX11_kind 19 = .ok (.iconst 2, 1) := by decide +kernel
theorem dX11_kind_20 : decode cX11_kind 20 = .ok (.imul, 1) := by decide +kernel
theorem dX11_kind_21 : decode cX11_kind 21 = .ok (.iload_n 2, 1) := by decide +kernel
theorem dX11_kind_22 : decode cX11_kind 22 = .ok (.iadd, 1) := by decide +kernel
theorem dX11_kind_23 : decode cX11_kind 23 = .ok (.iaload, 1) := by decide +kernel
theorem dX11_kind_24 : decode cX11_kind 24 = .ok (.ireturn, 1) := by decide +kernel
theorem dX11_next_0 : decode cX11_next 0 = .ok (.aload_n 0, 1) := by decide +kernel
theorem dX11_next_1 : decode cX11_next 1 = .ok (.iload_n 1, 1) := by decide +kernel
theorem dX11_next_2 : decode cX11_next 2 = .ok (.invokevirtual 153, 3) := by decide +kernel
theorem dX11_next_5 : decode cX11_next 5 = .ok (.aload_n 0, 1) := by decide +kernel
theorem dX11_next_6 : decode cX11_next 6 = .ok (.getfield 26, 3) := by decide +kernel
theorem dX11_next_9 : decode cX11_next 9 = .ok (.getfield 156, 3) := by decide +kernel
theorem dX11_next_12 : decode cX11_next 12 = .ok (.iload_n 1, 1) := by decide +kernel
theorem dX11_next_13 : decode cX11_next 13 = .ok (.iaload, 1) := by decide +kernel
theorem dX11_next_14 : decode cX11_next 14 = .ok (.ireturn, 1) := by decide +kernel
theorem dX11_hated_0 : decode cX11_hated 0 = .ok (.aload_n 0, 1) := by decide +kernel
theorem dX11_hated_1 : decode cX11_hated 1 = .ok (.iload_n 1, 1) := by decide +kernel
theorem dX11_hated_2 : decode cX11_hated 2 = .ok (.invokevirtual 153, 3) := by decide +kernel
theorem dX11_hated_5 : decode cX11_hated 5 = .ok (.aload_n 0, 1) := by decide +kernel
theorem dX11_hated_6 : decode cX11_hated 6 = .ok (.getfield 26, 3) := by decide +kernel
theorem dX11_hated_9 : decode cX11_hated 9 = .ok (.getfield 159, 3) := by decide +kernel
theorem dX11_hated_12 : decode cX11_hated 12 = .ok (.iload_n 1, 1) := by decide +kernel
theorem dX11_hated_13 : decode cX11_hated 13 = .ok (.iaload, 1) := by decide +kernel
theorem dX11_hated_14 : decode cX11_hated 14 = .ok (.ireturn, 1) := by decide +kernel
theorem dX11_never_0 : decode cX11_never 0 = .ok (.iconst 0, 1) := by decide +kernel
theorem dX11_never_1 : decode cX11_never 1 = .ok (.istore_n 1, 1) := by decide +kernel
theorem dX11_never_2 : decode cX11_never 2 = .ok (.iconst 0, 1) := by decide +kernel
theorem dX11_never_3 : decode cX11_never 3 = .ok (.istore_n 2, 1) := by decide +kernel
theorem dX11_never_4 : decode cX11_never 4 = .ok (.iload_n 2, 1) := by decide +kernel
theorem dX11_never_5 : decode cX11_never 5 = .ok (.aload_n 0, 1) := by decide +kernel
