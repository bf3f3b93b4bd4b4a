theorem dX12_house_0 : decode cX12_house 0 = .ok (.aload_n 0, 1) := by decide +kernel
theorem dX12_house_1 : decode cX12_house 1 = .ok (.iconst 0, 1) := by decide +kernel
theorem dX12_house_2 : decode cX12_house 2 = .ok (.putfield 75, 3) := by decide +kernel
theorem dX12_house_5 : decode cX12_house 5 = .ok (.iload_n 1, 1) := by decide +kernel
theorem dX12_house_6 : decode cX12_house 6 = .ok (.i2l, 1) := by decide +kernel
theorem dX12_house_7 : decode cX12_house 7 = .ok (.lconst 0, 1) := by decide +kernel
theorem dX12_house_8 : decode cX12_house 8 = .ok (.aload_n 0, 1) := by decide +kernel
theorem dX12_house_9 : decode cX12_house 9 = .ok (.getfield 78, 3) := by decide +kernel
theorem dX12_house_12 : decode cX12_house 12 = .ok (.i2l, 1) := by decide +kernel
theorem dX12_house_13 : decode cX12_house 13 = .ok (.invokestatic 134, 3) := by decide +kernel
theorem dX12_house_16 : decode cX12_house 16 = .ok (.ifCond .ne 9, 3) := by decide +kernel
theorem dX12_house_19 : decode cX12_house 19 = .ok (.aload_n 0, 1) := by decide +kernel
theorem dX12_house_20 : decode cX12_house 20 = .ok (.iconst 1, 1) := by decide +kernel
theorem dX12_house_21 : decode cX12_house 21 = .ok (.invokevirtual 219, 3) := by decide +kernel
theorem dX12_house_24 : decode cX12_house 24 = .ok (.ireturn, 1) := by decide +kernel
theorem dX12_house_25 : decode cX12_house 25 = .ok (.aload_n 0, 1) := by decide +kernel
theorem dX12_house_26 : decode cX12_house 26 = .ok (.iload_n 1, 1) := by decide +kernel
theorem dX12_house_27 : decode cX12_house 27 = .ok (.putfield 81, 3) := by decide +kernel
theorem dX12_house_30 : decode cX12_house 30 = .ok (.aload_n 0, 1) := by decide +kernel
theorem dX12_house_31 : decode cX12_house 31 = .ok (.iconst 0, 1) := by decide +kernel
theorem dX12_house_32 : decode cX12_house 32 = .ok (.putfield 78, 3) := by decide +kernel
theorem dX12_house_35 : decode cX12_house 35 = .ok (.aload_n 0, 1) := by decide +kernel
theorem dX12_house_36 : decode cX12_house 36 = .ok (.iconst 0, 1) := by decide +kernel
theorem dX12_house_37 : decode cX12_house 37 = .ok (.putfield 84, 3) := by decide +kernel
theorem dX12_house_40 : decode cX12_house 40 = .ok (.aload_n 0, 1) := by decide +kernel
theorem dX12_house_41 : decode cX12_house 41 = .ok (.iconst 0, 1) := by decide +kernel
theorem dX12_house_42 : decode cX12_house 42 = .ok (.putfield 107, 3) := by decide +kernel
theorem dX12_house_45 : decode cX12_house 45 = .ok (.aload_n 0, 1) := by decide +kernel
theorem dX12_house_46 : decode cX12_house 46 = .ok (.getfield 16, 3) := by decide +kernel
theorem dX12_house_49 : decode cX12_house 49 = .ok (.invokestatic 71, 3) := by decide +kernel
theorem dX12_house_52 : decode cX12_house 52 = .ok (.aload_n 0, 1) := by decide +kernel
theorem dX12_house_53 : decode cX12_house 53 = .ok (.invokevirtual 127, 3) := by decide +kernel
theorem dX12_house_56 : decode cX12_house 56 = .ok (.aload_n 0, 1) := by decide +kernel
theorem dX12_house_57 : decode cX12_house 57 = .ok (.getfield 107, 3) := by decide +kernel
theorem dX12_house_60 : decode cX12_house 60 = .ok (.ifCond .ne 17, 3) := by decide +kernel
theorem dX12_house_63 : decode cX12_house 63 = .ok (.aload_n 0, 1) := by decide +kernel
theorem dX12_house_64 : decode cX12_house 64 = .ok (.getfield 90, 3) := by decide +kernel
theorem dX12_house_67 : decode cX12_house 67 = .ok (.ifCond .eq 10, 3) := by decide +kernel
theorem dX12_house_70 : decode cX12_house 70 = .ok (.aload_n 0, 1) := by decide +kernel
theorem dX12_house_71 : decode cX12_house 71 = .ok (.invokevirtual 222, 3) := by decide +kernel
theorem dX12_house_74 : decode cX12_house 74 = .ok (.goto (-18), 3) := by decide +kernel
theorem dX12_house_77 : decode cX12_house 77 = .ok (.aload_n 0, 1) := by decide +kernel
theorem dX12_house_78 : decode cX12_house 78 = .ok (.aload_n 0, 1) := by decide +kernel
theorem dX12_house_79 : decode cX12_house 79 = .ok (.getfield 107, 3) := by decide +kernel
theorem dX12_house_82 : decode cX12_house 82 = .ok (.putfield 225, 3) := by decide +kernel
theorem dX12_house_85 : decode cX12_house 85 = .ok (.aload_n 0, 1) := by decide +kernel
theorem dX12_house_86 : decode cX12_house 86 = .ok (.aload_n 0, 1) := by decide +kernel
theorem dX12_house_87 : decode cX12_house 87 = .ok (.getfield 107, 3) := by decide +kernel
theorem dX12_house_90 : decode cX12_house 90 = .ok (.ifCond .ne 7, 3) := by decide +kernel
theorem dX12_house_93 : decode cX12_house 93 = .ok (.iconst (-1), 1) := by decide +kernel
theorem dX12_house_94 : decode cX12_house 94 = .ok (.goto 7, 3) := by decide +kernel
theorem dX12_house_97 : decode cX12_house 97 = .ok (.aload_n 0, 1) := by decide +kernel
theorem dX12_house_98 : decode cX12_house 98 = .ok (.getfield 110, 3) := by decide +kernel
theorem dX12_house_101 : decode cX12_house 101 = .ok (.putfield 26, 3) := by decide +kernel
theorem dX12_house_104 : decode cX12_house 104 = .ok (.aload_n 0, 1) := by decide +kernel
theorem dX12_house_105 : decode cX12_house 105 = .ok (.getfield 107, 3) := by decide +kernel
theorem dX12_house_108 : decode cX12_house 108 = .ok (.ifCond .eq 11, 3) := by decide +kernel
theorem dX12_house_111 : decode cX12_house 111 = .ok (.bipush (-10), 2) := by decide +kernel
theorem dX12_house_113 : decode cX12_house 113 = .ok (.aload_n 0, 1) := by decide +kernel
theorem dX12_house_114 : decode cX12_house 114 = .ok (.getfield 107, 3) := by decide +kernel
theorem dX12_house_117 : decode cX12_house 117 = .ok (.isub, 1) := by decide +kernel
theorem dX12_house_118 : decode cX12_house 118 = .ok (.ireturn, 1) := by decide +kernel
theorem dX12_house_119 : decode cX12_house 119 = .ok (.iconst 0, 1) := by decide +kernel
theorem dX12_house_120 : decode cX12_house 120 = .ok (.istore_n 2, 1) := by decide +kernel
theorem dX12_house_121 : decode cX12_house 121 = .ok (.iload_n 2, 1) := by decide +kernel
theorem dX12_house_122 : decode cX12_house 122 = .ok (.sipush 480, 3) := by decide +kernel
theorem dX12_house_125 : decode cX12_house 125 = .ok (.if_icmp .ge 21, 3) := by decide +kernel
theorem dX12_house_128 : decode cX12_house 128 = .ok (.aload_n 0, 1) := by decide +kernel
theorem dX12_house_129 : decode cX12_house 129 = .ok (.getfield 9, 3) := by decide +kernel
theorem dX12_house_132 : decode cX12_house 132 = .ok (.iload_n 2, 1) := by decide +kernel
theorem dX12_house_133 : decode cX12_house 133 = .ok (.aload_n 0, 1) := by decide +kernel
theorem dX12_house_134 : decode cX12_house 134 = .ok (.getfield 16, 3) := by decide +kernel
theorem dX12_house_137 : decode cX12_house 137 = .ok (.iload_n 2, 1) := by decide +kernel
theorem dX12_house_138 : decode cX12_house 138 = .ok (.iaload, 1) := by decide +kernel
theorem dX12_house_139 : decode cX12_house 139 = .ok (.iastore, 1) := by decide +kernel
theorem dX12_house_140 : decode cX12_house 140 = .ok (.iinc 2 1, 3) := by decide +kernel
theorem dX12_house_143 : decode cX12_house 143 = .ok (.goto (-22), 3) := by decide +kernel
theorem dX12_house_146 : decode cX12_house 146 = .ok (.aload_n 0, 1) := by decide +kernel
theorem dX12_house_147 : decode cX12_house 147 = .ok (.getfield 9, 3) := by decide +kernel
theorem dX12_house_150 : decode cX12_house 150 = .ok (.iconst 0, 1) := by decide +kernel
theorem dX12_house_151 : decode cX12_house 151 = .ok (.iaload, 1) := by decide +kernel
theorem dX12_house_152 : decode cX12_house 152 = .ok (.ireturn, 1) := by decide +kernel
theorem dX12_fault_0 : decode cX12_fault 0 = .ok (.aload_n 0, 1) := by decide +kernel
theorem dX12_fault_1 : decode cX12_fault 1 = .ok (.iconst 0, 1) := by decide +kernel
theorem dX12_fault_2 : decode cX12_fault 2 = .ok (.putfield 75, 3) := by decide +kernel
theorem dX12_fault_5 : decode cX12_fault 5 = .ok (.iload_n 1, 1) := by decide +kernel
theorem dX12_fault_6 : decode cX12_fault 6 = .ok (.ifCond .ne 10, 3) := by decide +kernel
theorem dX12_fault_9 : decode cX12_fault 9 = .ok (.aload_n 0, 1) := by decide +kernel
theorem dX12_fault_10 : decode cX12_fault 10 = .ok (.getfield 225, 3) := by decide +kernel
theorem dX12_fault_13 : decode cX12_fault 13 = .ok (.goto 16, 3) := by decide +kernel
theorem dX12_fault_16 : decode cX12_fault 16 = .ok (.iload_n 1, 1) := by decide +kernel
theorem dX12_fault_17 : decode cX12_fault 17 = .ok (.iconst 1, 1) := by decide +kernel
theorem dX12_fault_18 : decode cX12_fault 18 = .ok (.if_icmp .ne 10, 3) := by decide +kernel
theorem dX12_fault_21 : decode cX12_fault 21 = .ok (.aload_n 0, 1) := by decide +kernel
theorem dX12_fault_22 : decode cX12_fault 22 = .ok (.getfield 26, 3) := by decide +kernel
theorem dX12_fault_25 : decode cX12_fault 25 = .ok (.goto 4, 3) := by decide +kernel
theorem dX12_fault_28 : decode cX12_fault 28 = .ok (.iconst (-1), 1) := by decide +kernel
theorem dX12_fault_29 : decode cX12_fault 29 = .ok (.ireturn, 1) := by decide +kernel
theorem dX12_rooms_0 : decode cX12_rooms 0 = .ok (.aload_n 0, 1) := by decide +kernel
theorem dX12_rooms_1 : decode cX12_rooms 1 = .ok (.getfield 9, 3) := by decide +kernel
theorem dX12_rooms_4 : decode cX12_rooms 4 = .ok (.iconst 1, 1) := by decide +kernel
theorem dX12_rooms_5 : decode cX12_rooms 5 = .ok (.iaload, 1) := by decide +kernel
theorem dX12_rooms_6 : decode cX12_rooms 6 = .ok (.ireturn, 1) := by decide +kernel
theorem dX12_all_0 : decode cX12_all 0 = .ok (.iconst 1, 1) := by decide +kernel
theorem dX12_all_1 : decode cX12_all 1 = .ok (.aload_n 0, 1) := by decide +kernel
theorem dX12_all_2 : decode cX12_all 2 = .ok (.invokevirtual 228, 3) := by decide +kernel
theorem dX12_all_5 : decode cX12_all 5 = .ok (.ishl, 1) := by decide +kernel
theorem dX12_all_6 : decode cX12_all 6 = .ok (.iconst 1, 1) := by decide +kernel
theorem dX12_all_7 : decode cX12_all 7 = .ok (.isub, 1) := by decide +kernel
theorem dX12_all_8 : decode cX12_all 8 = .ok (.ireturn, 1) := by decide +kernel
theorem dX12_isRoom_0 : decode cX12_isRoom 0 = .ok (.iload_n 1, 1) := by decide +kernel
theorem dX12_isRoom_1 : decode cX12_isRoom 1 = .ok (.i2l, 1) := by decide +kernel
theorem dX12_isRoom_2 : decode cX12_isRoom 2 = .ok (.lconst 0, 1) := by decide +kernel
theorem dX12_isRoom_3 : decode cX12_isRoom 3 = .ok (.aload_n 0, 1) := by decide +kernel
theorem dX12_isRoom_4 : decode cX12_isRoom 4 = .ok (.invokevirtual 228, 3) := by decide +kernel
theorem dX12_isRoom_7 : decode cX12_isRoom 7 = .ok (.iconst 1, 1) := by decide +kernel
theorem dX12_isRoom_8 : decode cX12_isRoom 8 = .ok (.isub, 1) := by decide +kernel
theorem dX12_isRoom_9 : decode cX12_isRoom 9 = .ok (.i2l, 1) := by decide +kernel
theorem dX12_isRoom_10 : decode cX12_isRoom 10 = .ok (.invokestatic 134, 3) := by decide +kernel
theorem dX12_isRoom_13 : decode cX12_isRoom 13 = .ok (.ireturn, 1) := by decide +kernel
theorem dX12_isKind_0 : decode cX12_isKind 0 = .ok (.iload_n 1, 1) := by decide +kernel
theorem dX12_isKind_1 : decode cX12_isKind 1 = .ok (.i2l, 1) := by decide +kernel
theorem dX12_isKind_2 : decode cX12_isKind 2 = .ok (.lconst 0, 1) := by decide +kernel
theorem dX12_isKind_3 : decode cX12_isKind 3 = .ok (.aload_n 0, 1) := by decide +kernel
theorem dX12_isKind_4 : decode cX12_isKind 4 = .ok (.getfield 9, 3) := by decide +kernel
theorem dX12_isKind_7 : decode cX12_isKind 7 = .ok (.iconst 3, 1) := by decide +kernel
theorem dX12_isKind_8 : decode cX12_isKind 8 = .ok (.iaload, 1) := by decide +kernel
theorem dX12_isKind_9 : decode cX12_isKind 9 = .ok (.iconst 1, 1) := by decide +kernel
theorem dX12_isKind_10 : decode cX12_isKind 10 = .ok (.isub, 1) := by decide +kernel
theorem dX12_isKind_11 : decode cX12_isKind 11 = .ok (.i2l, 1) := by decide +kernel
theorem dX12_isKind_12 : decode cX12_isKind 12 = .ok (.invokestatic 134, 3) := by decide +kernel
theorem dX12_isKind_15 : decode cX12_isKind 15 = .ok (.ireturn, 1) := by decide +kernel
theorem dX12_isSet_0 : decode cX12_isSet 0 = .ok (.iload_n 1, 1) := by decide +kernel
theorem dX12_isSet_1 : decode cX12_isSet 1 = .ok (.i2l, 1) := by decide +kernel
theorem dX12_isSet_2 : decode cX12_isSet 2 = .ok (.lconst 0, 1) := by decide +kernel
theorem dX12_isSet_3 : decode cX12_isSet 3 = .ok (.aload_n 0, 1) := by decide +kernel
theorem dX12_isSet_4 : decode cX12_isSet 4 = .ok (.invokevirtual 230, 3) := by decide +kernel
theorem dX12_isSet_7 : decode cX12_isSet 7 = .ok (.i2l, 1) := by decide +kernel
theorem dX12_isSet_8 : decode cX12_isSet 8 = .ok (.invokestatic 134, 3) := by decide +kernel
theorem dX12_isSet_11 : decode cX12_isSet 11 = .ok (.ireturn, 1) := by decide +kernel
theorem dX12_isHour_0 : decode cX12_isHour 0 = .ok (.iload_n 0, 1) := by decide +kernel
theorem dX12_isHour_1 : decode cX12_isHour 1 = .ok (.i2l, 1) := by decide +kernel
theorem dX12_isHour_2 : decode cX12_isHour 2 = .ok (.lconst 0, 1) := by decide +kernel
theorem dX12_isHour_3 : decode cX12_isHour 3 = .ok (.ldc2_w 233, 3) := by decide +kernel
theorem dX12_isHour_6 : decode cX12_isHour 6 = .ok (.invokestatic 134, 3) := by decide +kernel
theorem dX12_isHour_9 : decode cX12_isHour 9 = .ok (.ireturn, 1) := by decide +kernel
theorem dX12_pane_0 : decode cX12_pane 0 = .ok (.aload_n 0, 1) := by decide +kernel
theorem dX12_pane_1 : decode cX12_pane 1 = .ok (.iconst 0, 1) := by decide +kernel
theorem dX12_pane_2 : decode cX12_pane 2 = .ok (.putfield 75, 3) := by decide +kernel
theorem dX12_pane_5 : decode cX12_pane 5 = .ok (.iload_n 1, 1) := by decide +kernel
theorem dX12_pane_6 : decode cX12_pane 6 = .ok (.i2l, 1) := by decide +kernel
theorem dX12_pane_7 : decode cX12_pane 7 = .ok (.lconst 0, 1) := by decide +kernel
theorem dX12_pane_8 : decode cX12_pane 8 = .ok (.aload_n 0, 1) := by decide +kernel
theorem dX12_pane_9 : decode cX12_pane 9 = .ok (.getfield 9, 3) := by decide +kernel
theorem dX12_pane_12 : decode cX12_pane 12 = .ok (.iconst 2, 1) := by decide +kernel
theorem dX12_pane_13 : decode cX12_pane 13 = .ok (.iaload, 1) := by decide +kernel
theorem dX12_pane_14 : decode cX12_pane 14 = .ok (.iconst 1, 1) := by decide +kernel
theorem dX12_pane_15 : decode cX12_pane 15 = .ok (.isub, 1) := by decide +kernel
theorem dX12_pane_16 : decode cX12_pane 16 = .ok (.i2l, 1) := by decide +kernel
theorem dX12_pane_17 : decode cX12_pane 17 = .ok (.invokestatic 134, 3) := by decide +kernel
theorem dX12_pane_20 : decode cX12_pane 20 = .ok (.ifCond .ne 9, 3) := by decide +kernel
theorem dX12_pane_23 : decode cX12_pane 23 = .ok (.aload_n 0, 1) := by decide +kernel
theorem dX12_pane_24 : decode cX12_pane 24 = .ok (.iconst 1, 1) := by decide +kernel
theorem dX12_pane_25 : decode cX12_pane 25 = .ok (.invokevirtual 219, 3) := by decide +kernel
theorem dX12_pane_28 : decode cX12_pane 28 = .ok (.ireturn, 1) := by decide +kernel
theorem dX12_pane_29 : decode cX12_pane 29 = .ok (.iload_n 2, 1) := by decide +kernel
theorem dX12_pane_30 : decode cX12_pane 30 = .ok (.i2l, 1) := by decide +kernel
theorem dX12_pane_31 : decode cX12_pane 31 = .ok (.lconst 0, 1) := by decide +kernel
theorem dX12_pane_32 : decode cX12_pane 32 = .ok (.ldc2_w 235, 3) := by decide +kernel
theorem dX12_pane_35 : decode cX12_pane 35 = .ok (.invokestatic 134, 3) := by decide +kernel
theorem dX12_pane_38 : decode cX12_pane 38 = .ok (.ifCond .eq 19, 3) := by decide +kernel
theorem dX12_pane_41 : decode cX12_pane 41 = .ok (.aload_n 0, 1) := by decide +kernel
theorem dX12_pane_42 : decode cX12_pane 42 = .ok (.getfield 9, 3) := by decide +kernel
theorem dX12_pane_45 : decode cX12_pane 45 = .ok (.bipush 8, 2) := by decide +kernel
theorem dX12_pane_47 : decode cX12_pane 47 = .ok (.iconst 4, 1) := by decide +kernel
theorem dX12_pane_48 : decode cX12_pane 48 = .ok (.iload_n 1, 1) := by decide +kernel
theorem dX12_pane_49 : decode cX12_pane 49 = .ok (.imul, 1) := by decide +kernel
theorem dX12_pane_50 : decode cX12_pane 50 = .ok (.iadd, 1) := by decide +kernel
theorem dX12_pane_51 : decode cX12_pane 51 = .ok (.iload_n 2, 1) := by decide +kernel
theorem dX12_pane_52 : decode cX12_pane 52 = .ok (.iadd, 1) := by decide +kernel
theorem dX12_pane_53 : decode cX12_pane 53 = .ok (.iaload, 1) := by decide +kernel
theorem dX12_pane_54 : decode cX12_pane 54 = .ok (.goto 8, 3) := by decide +kernel
theorem dX12_pane_57 : decode cX12_pane 57 = .ok (.aload_n 0, 1) := by decide +kernel
theorem dX12_pane_58 : decode cX12_pane 58 = .ok (.iconst 2, 1) := by decide +kernel
theorem dX12_pane_59 : decode cX12_pane 59 = .ok (.invokevirtual 219, 3) := by decide +kernel
theorem dX12_pane_62 : decode cX12_pane 62 = .ok (.ireturn, 1) := by decide +kernel
theorem dX12_kind_0 : decode cX12_kind 0 = .ok (.aload_n 0, 1) := by decide +kernel
theorem dX12_kind_1 : decode cX12_kind 1 = .ok (.iconst 0, 1) := by decide +kernel
theorem dX12_kind_2 : decode cX12_kind 2 = .ok (.putfield 75, 3) := by decide +kernel
theorem dX12_kind_5 : decode cX12_kind 5 = .ok (.aload_n 0, 1) := by decide +kernel
theorem dX12_kind_6 : decode cX12_kind 6 = .ok (.iload_n 1, 1) := by decide +kernel
theorem dX12_kind_7 : decode cX12_kind 7 = .ok (.invokevirtual 237, 3) := by decide +kernel
theorem dX12_kind_10 : decode cX12_kind 10 = .ok (.ifCond .ne 9, 3) := by decide +kernel
theorem dX12_kind_13 : decode cX12_kind 13 = .ok (.aload_n 0, 1) := by decide +kernel
theorem dX12_kind_14 : decode cX12_kind 14 = .ok (.iconst 1, 1) := by decide +kernel
theorem dX12_kind_15 : decode cX12_kind 15 = .ok (.invokevirtual 219, 3) := by decide +kernel
theorem dX12_kind_18 : decode cX12_kind 18 = .ok (.ireturn, 1) := by decide +kernel
theorem dX12_kind_19 : decode cX12_kind 19 = .ok (.iload_n 2, 1) := by decide +kernel
theorem dX12_kind_20 : decode cX12_kind 20 = .ok (.i2l, 1) := by decide +kernel
theorem dX12_kind_21 : decode cX12_kind 21 = .ok (.lconst 0, 1) := by decide +kernel
theorem dX12_kind_22 : decode cX12_kind 22 = .ok (.lconst 1, 1) := by decide +kernel
theorem dX12_kind_23 : decode cX12_kind 23 = .ok (.invokestatic 134, 3) := by decide +kernel
theorem dX12_kind_26 : decode cX12_kind 26 = .ok (.ifCond .eq 20, 3) := by decide +kernel
theorem dX12_kind_29 : decode cX12_kind 29 = .ok (.aload_n 0, 1) := by decide +kernel
theorem dX12_kind_30 : decode cX12_kind 30 = .ok (.getfield 9, 3) := by decide +kernel
theorem dX12_kind_33 : decode cX12_kind 33 = .ok (.sipush 248, 3) := by decide +kernel
theorem dX12_kind_36 : decode cX12_kind 36 = .ok (.iconst 2, 1) := by decide +kernel
theorem dX12_kind_37 : decode cX12_kind 37 = .ok (.iload_n 1, 1) := by decide +kernel
theorem dX12_kind_38 : decode cX12_kind 38 = .ok (.imul, 1) := by decide +kernel
theorem dX12_kind_39 : decode cX12_kind 39 = .ok (.iadd, 1) := by decide +kernel
theorem dX12_kind_40 : decode cX12_kind 40 = .ok (.iload_n 2, 1) := by decide +kernel
theorem dX12_kind_41 : decode cX12_kind 41 = .ok (.iadd, 1) := by decide +kernel
theorem dX12_kind_42 : decode cX12_kind 42 = .ok (.iaload, 1) := by decide +kernel
theorem dX12_kind_43 : decode cX12_kind 43 = .ok (.goto 8, 3) := by decide +kernel
theorem dX12_kind_46 : decode cX12_kind 46 = .ok (.aload_n 0, 1) := by decide +kernel
theorem dX12_kind_47 : decode cX12_kind 47 = .ok (.iconst 2, 1) := by decide +kernel
theorem dX12_kind_48 : decode cX12_kind 48 = .ok (.invokevirtual 219, 3) := by decide +kernel
theorem dX12_kind_51 : decode cX12_kind 51 = .ok (.ireturn, 1) := by decide +kernel
theorem dX12_nextOf_0 : decode cX12_nextOf 0 = .ok (.iconst 0, 1) := by decide +kernel
theorem dX12_nextOf_1 : decode cX12_nextOf 1 = .ok (.istore_n 2, 1) := by decide +kernel
theorem dX12_nextOf_2 : decode cX12_nextOf 2 = .ok (.bipush 8, 2) := by decide +kernel
theorem dX12_nextOf_4 : decode cX12_nextOf 4 = .ok (.istore_n 3, 1) := by decide +kernel
theorem dX12_nextOf_5 : decode cX12_nextOf 5 = .ok (.iload_n 3, 1) := by decide +kernel
theorem dX12_nextOf_6 : decode cX12_nextOf 6 = .ok (.bipush 8, 2) := by decide +kernel
theorem dX12_nextOf_8 : decode cX12_nextOf 8 = .ok (.iconst 4, 1) := by decide +kernel
theorem dX12_nextOf_9 : decode cX12_nextOf 9 = .ok (.aload_n 0, 1) := by decide +kernel
theorem dX12_nextOf_10 : decode cX12_nextOf 10 = .ok (.getfield 9, 3) := by decide +kernel
theorem dX12_nextOf_13 : decode cX12_nextOf 13 = .ok (.iconst 2, 1) := by decide +kernel
theorem dX12_nextOf_14 : decode cX12_nextOf 14 = .ok (.iaload, 1) := by decide +kernel
theorem dX12_nextOf_15 : decode cX12_nextOf 15 = .ok (.imul, 1) := by decide +kernel
theorem dX12_nextOf_16 : decode cX12_nextOf 16 = .ok (.iadd, 1) := by decide +kernel
theorem dX12_nextOf_17 : decode cX12_nextOf 17 = .ok (.if_icmp .ge 67, 3) := by decide +kernel
theorem dX12_nextOf_20 : decode cX12_nextOf 20 = .ok (.aload_n 0, 1) := by decide +kernel
theorem dX12_nextOf_21 : decode cX12_nextOf 21 = .ok (.getfield 9, 3) := by decide +kernel
theorem dX12_nextOf_24 : decode cX12_nextOf 24 = .ok (.iload_n 3, 1) := by decide +kernel
theorem dX12_nextOf_25 : decode cX12_nextOf 25 = .ok (.iconst 1, 1) := by decide +kernel
theorem dX12_nextOf_26 : decode cX12_nextOf 26 = .ok (.iadd, 1) := by decide +kernel
theorem dX12_nextOf_27 : decode cX12_nextOf 27 = .ok (.iaload, 1) := by decide +kernel
theorem dX12_nextOf_28 : decode cX12_nextOf 28 = .ok (.iload_n 1, 1) := by decide +kernel
theorem dX12_nextOf_29 : decode cX12_nextOf 29 = .ok (.if_icmp .ne 14, 3) := by decide +kernel
theorem dX12_nextOf_32 : decode cX12_nextOf 32 = .ok (.iload_n 2, 1) := by decide +kernel
theorem dX12_nextOf_33 : decode cX12_nextOf 33 = .ok (.iconst 1, 1) := by decide +kernel
theorem dX12_nextOf_34 : decode cX12_nextOf 34 = .ok (.aload_n 0, 1) := by decide +kernel
theorem dX12_nextOf_35 : decode cX12_nextOf 35 = .ok (.getfield 9, 3) := by decide +kernel
theorem dX12_nextOf_38 : decode cX12_nextOf 38 = .ok (.iload_n 3, 1) := by decide +kernel
theorem dX12_nextOf_39 : decode cX12_nextOf 39 = .ok (.iaload, 1) := by decide +kernel
theorem dX12_nextOf_40 : decode cX12_nextOf 40 = .ok (.ishl, 1) := by decide +kernel
theorem dX12_nextOf_41 : decode cX12_nextOf 41 = .ok (.ior, 1) := by decide +kernel
theorem dX12_nextOf_42 : decode cX12_nextOf 42 = .ok (.istore_n 2, 1) := by decide +kernel
theorem dX12_nextOf_43 : decode cX12_nextOf 43 = .ok (.aload_n 0, 1) := by decide +kernel
theorem dX12_nextOf_44 : decode cX12_nextOf 44 = .ok (.getfield 9, 3) := by decide +kernel
theorem dX12_nextOf_47 : decode cX12_nextOf 47 = .ok (.iload_n 3, 1) := by decide +kernel
theorem dX12_nextOf_48 : decode cX12_nextOf 48 = .ok (.iconst 3, 1) := by decide +kernel
theorem dX12_nextOf_49 : decode cX12_nextOf 49 = .ok (.iadd, 1) := by decide +kernel
theorem dX12_nextOf_50 : decode cX12_nextOf 50 = .ok (.iaload, 1) := by decide +kernel
theorem dX12_nextOf_51 : decode cX12_nextOf 51 = .ok (.iconst 1, 1) := by decide +kernel
theorem dX12_nextOf_52 : decode cX12_nextOf 52 = .ok (.if_icmp .ne 26, 3) := by decide +kernel
theorem dX12_nextOf_55 : decode cX12_nextOf 55 = .ok (.aload_n 0, 1) := by decide +kernel
theorem dX12_nextOf_56 : decode cX12_nextOf 56 = .ok (.getfield 9, 3) := by decide +kernel
theorem dX12_nextOf_59 : decode cX12_nextOf 59 = .ok (.iload_n 3, 1) := by decide +kernel
theorem dX12_nextOf_60 : decode cX12_nextOf 60 = .ok (.iaload, 1) := by decide +kernel
theorem dX12_nextOf_61 : decode cX12_nextOf 61 = .ok (.iload_n 1, 1) := by decide +kernel
theorem dX12_nextOf_62 : decode cX12_nextOf 62 = .ok (.if_icmp .ne 16, 3) := by decide +kernel
theorem dX12_nextOf_65 : decode cX12_nextOf 65 = .ok (.iload_n 2, 1) := by decide +kernel
theorem dX12_nextOf_66 : decode cX12_nextOf 66 = .ok (.iconst 1, 1) := by decide +kernel
theorem dX12_nextOf_67 : decode cX12_nextOf 67 = .ok (.aload_n 0, 1) := by decide +kernel
theorem dX12_nextOf_68 : decode cX12_nextOf 68 = .ok (.getfield 9, 3) := by decide +kernel
theorem dX12_nextOf_71 : decode cX12_nextOf 71 = .ok (.iload_n 3, 1) := by decide +kernel
theorem dX12_nextOf_72 : decode cX12_nextOf 72 = .ok (.iconst 1, 1) := by decide +kernel
theorem dX12_nextOf_73 : decode cX12_nextOf 73 = .ok (.iadd, 1) := by decide +kernel
theorem dX12_nextOf_74 : decode cX12_nextOf 74 = .ok (.iaload, 1) := by decide +kernel
theorem dX12_nextOf_75 : decode cX12_nextOf 75 = .ok (.ishl, 1) := by decide +kernel
theorem dX12_nextOf_76 : decode cX12_nextOf 76 = .ok (.ior, 1) := by decide +kernel
theorem dX12_nextOf_77 : decode cX12_nextOf 77 = .ok (.istore_n 2, 1) := by decide +kernel
theorem dX12_nextOf_78 : decode cX12_nextOf 78 = .ok (.iinc 3 4, 3) := by decide +kernel
theorem dX12_nextOf_81 : decode cX12_nextOf 81 = .ok (.goto (-76), 3) := by decide +kernel
theorem dX12_nextOf_84 : decode cX12_nextOf 84 = .ok (.iload_n 2, 1) := by decide +kernel
theorem dX12_nextOf_85 : decode cX12_nextOf 85 = .ok (.ireturn, 1) := by decide +kernel
theorem dX12_next_0 : decode cX12_next 0 = .ok (.aload_n 0, 1) := by decide +kernel
theorem dX12_next_1 : decode cX12_next 1 = .ok (.iconst 0, 1) := by decide +kernel
theorem dX12_next_2 : decode cX12_next 2 = .ok (.putfield 75, 3) := by decide +kernel
theorem dX12_next_5 : decode cX12_next 5 = .ok (.aload_n 0, 1) := by decide +kernel
theorem dX12_next_6 : decode cX12_next 6 = .ok (.iload_n 1, 1) := by decide +kernel
theorem dX12_next_7 : decode cX12_next 7 = .ok (.invokevirtual 240, 3) := by decide +kernel
theorem dX12_next_10 : decode cX12_next 10 = .ok (.ifCond .eq 11, 3) := by decide +kernel
theorem dX12_next_13 : decode cX12_next 13 = .ok (.aload_n 0, 1) := by decide +kernel
theorem dX12_next_14 : decode cX12_next 14 = .ok (.iload_n 1, 1) := by decide +kernel
theorem dX12_next_15 : decode cX12_next 15 = .ok (.invokevirtual 243, 3) := by decide +kernel
theorem dX12_next_18 : decode cX12_next 18 = .ok (.goto 8, 3) := by decide +kernel
theorem dX12_next_21 : decode cX12_next 21 = .ok (.aload_n 0, 1) := by decide +kernel
theorem dX12_next_22 : decode cX12_next 22 = .ok (.iconst 1, 1) := by decide +kernel
theorem dX12_next_23 : decode cX12_next 23 = .ok (.invokevirtual 219, 3) := by decide +kernel
theorem dX12_next_26 : decode cX12_next 26 = .ok (.ireturn, 1) := by decide +kernel
theorem dX12_hated_0 : decode cX12_hated 0 = .ok (.aload_n 0, 1) := by decide +kernel
theorem dX12_hated_1 : decode cX12_hated 1 = .ok (.iconst 0, 1) := by decide +kernel
theorem dX12_hated_2 : decode cX12_hated 2 = .ok (.putfield 75, 3) := by decide +kernel
theorem dX12_hated_5 : decode cX12_hated 5 = .ok (.aload_n 0, 1) := by decide +kernel
theorem dX12_hated_6 : decode cX12_hated 6 = .ok (.iload_n 1, 1) := by decide +kernel
theorem dX12_hated_7 : decode cX12_hated 7 = .ok (.invokevirtual 240, 3) := by decide +kernel
theorem dX12_hated_10 : decode cX12_hated 10 = .ok (.ifCond .eq 16, 3) := by decide +kernel
theorem dX12_hated_13 : decode cX12_hated 13 = .ok (.aload_n 0, 1) := by decide +kernel
theorem dX12_hated_14 : decode cX12_hated 14 = .ok (.getfield 9, 3) := by decide +kernel
theorem dX12_hated_17 : decode cX12_hated 17 = .ok (.sipush 432, 3) := by decide +kernel
theorem dX12_hated_20 : decode cX12_hated 20 = .ok (.iload_n 1, 1) := by decide +kernel
theorem dX12_hated_21 : decode cX12_hated 21 = .ok (.iadd, 1) := by decide +kernel
theorem dX12_hated_22 : decode cX12_hated 22 = .ok (.iaload, 1) := by decide +kernel
theorem dX12_hated_23 : decode cX12_hated 23 = .ok (.goto 8, 3) := by decide +kernel
theorem dX12_hated_26 : decode cX12_hated 26 = .ok (.aload_n 0, 1) := by decide +kernel
theorem dX12_hated_27 : decode cX12_hated 27 = .ok (.iconst 1, 1) := by decide +kernel
theorem dX12_hated_28 : decode cX12_hated 28 = .ok (.invokevirtual 219, 3) := by decide +kernel
theorem dX12_hated_31 : decode cX12_hated 31 = .ok (.ireturn, 1) := by decide +kernel
theorem dX12_layNexts_0 : decode cX12_layNexts 0 = .ok (.iconst 0, 1) := by decide +kernel
theorem dX12_layNexts_1 : decode cX12_layNexts 1 = .ok (.istore_n 1, 1) := by decide +kernel
theorem dX12_layNexts_2 : decode cX12_layNexts 2 = .ok (.iload_n 1, 1) := by decide +kernel
theorem dX12_layNexts_3 : decode cX12_layNexts 3 = .ok (.aload_n 0, 1) := by decide +kernel
theorem dX12_layNexts_4 : decode cX12_layNexts 4 = .ok (.invokevirtual 228, 3) := by decide +kernel
theorem dX12_layNexts_7 : decode cX12_layNexts 7 = .ok (.if_icmp .ge 20, 3) := by decide +kernel
theorem dX12_layNexts_10 : decode cX12_layNexts 10 = .ok (.aload_n 0, 1) := by decide +kernel
theorem dX12_layNexts_11 : decode cX12_layNexts 11 = .ok (.getfield 30, 3) := by decide +kernel
theorem dX12_layNexts_14 : decode cX12_layNexts 14 = .ok (.iload_n 1, 1) := by decide +kernel
theorem dX12_layNexts_15 : decode cX12_layNexts 15 = .ok (.aload_n 0, 1) := by decide +kernel
theorem dX12_layNexts_16 : decode cX12_layNexts 16 = .ok (.iload_n 1, 1) := by decide +kernel
theorem dX12_layNexts_17 : decode cX12_layNexts 17 = .ok (.invokevirtual 243, 3) := by decide +kernel
theorem dX12_layNexts_20 : decode cX12_layNexts 20 = .ok (.iastore, 1) := by decide +kernel
theorem dX12_layNexts_21 : decode cX12_layNexts 21 = .ok (.iinc 1 1, 3) := by decide +kernel
theorem dX12_layNexts_24 : decode cX12_layNexts 24 = .ok (.goto (-22), 3) := by decide +kernel
theorem dX12_layNexts_27 : decode cX12_layNexts 27 = .ok (.return_, 1) := by decide +kernel
theorem dX12_never_0 : decode cX12_never 0 = .ok (.aload_n 0, 1) := by decide +kernel
theorem dX12_never_1 : decode cX12_never 1 = .ok (.iconst 0, 1) := by decide +kernel
theorem dX12_never_2 : decode cX12_never 2 = .ok (.putfield 75, 3) := by decide +kernel
theorem dX12_never_5 : decode cX12_never 5 = .ok (.iconst 0, 1) := by decide +kernel
theorem dX12_never_6 : decode cX12_never 6 = .ok (.istore_n 1, 1) := by decide +kernel
theorem dX12_never_7 : decode cX12_never 7 = .ok (.iconst 0, 1) := by decide +kernel
theorem dX12_never_8 : decode cX12_never 8 = .ok (.istore_n 2, 1) := by decide +kernel
theorem dX12_never_9 : decode cX12_never 9 = .ok (.iload_n 2, 1) := by decide +kernel
theorem dX12_never_10 : decode cX12_never 10 = .ok (.aload_n 0, 1) := by decide +kernel
theorem dX12_never_11 : decode cX12_never 11 = .ok (.invokevirtual 228, 3) := by decide +kernel
theorem dX12_never_14 : decode cX12_never 14 = .ok (.if_icmp .ge 27, 3) := by decide +kernel
theorem dX12_never_17 : decode cX12_never 17 = .ok (.iload_n 1, 1) := by decide +kernel
theorem dX12_never_18 : decode cX12_never 18 = .ok (.aload_n 0, 1) := by decide +kernel
theorem dX12_never_19 : decode cX12_never 19 = .ok (.iload_n 2, 1) := by decide +kernel
theorem dX12_never_20 : decode cX12_never 20 = .ok (.invokevirtual 243, 3) := by decide +kernel
theorem dX12_never_23 : decode cX12_never 23 = .ok (.ifCond .ne 9, 3) := by decide +kernel
theorem dX12_never_26 : decode cX12_never 26 = .ok (.iconst 1, 1) := by decide +kernel
theorem dX12_never_27 : decode cX12_never 27 = .ok (.iload_n 2, 1) := by decide +kernel
theorem dX12_never_28 : decode cX12_never 28 = .ok (.ishl, 1) := by decide +kernel
theorem dX12_never_29 : decode cX12_never 29 = .ok (.goto 4, 3) := by decide +kernel
theorem dX12_never_32 : decode cX12_never 32 = .ok (.iconst 0, 1) := by decide +kernel
theorem dX12_never_33 : decode cX12_never 33 = .ok (.ior, 1) := by decide +kernel
theorem dX12_never_34 : decode cX12_never 34 = .ok (.istore_n 1, 1) := by decide +kernel
theorem dX12_never_35 : decode cX12_never 35 = .ok (.iinc 2 1, 3) := by decide +kernel
theorem dX12_never_38 : decode cX12_never 38 = .ok (.goto (-29), 3) := by decide +kernel
theorem dX12_never_41 : decode cX12_never 41 = .ok (.iload_n 1, 1) := by decide +kernel
theorem dX12_never_42 : decode cX12_never 42 = .ok (.ireturn, 1) := by decide +kernel
theorem dX12_layShine_0 : decode cX12_layShine 0 = .ok (.iconst 0, 1) := by decide +kernel
theorem dX12_layShine_1 : decode cX12_layShine 1 = .ok (.istore_n 2, 1) := by decide +kernel
theorem dX12_layShine_2 : decode cX12_layShine 2 = .ok (.iload_n 2, 1) := by decide +kernel
theorem dX12_layShine_3 : decode cX12_layShine 3 = .ok (.aload_n 0, 1) := by decide +kernel
theorem dX12_layShine_4 : decode cX12_layShine 4 = .ok (.invokevirtual 228, 3) := by decide +kernel
theorem dX12_layShine_7 : decode cX12_layShine 7 = .ok (.if_icmp .ge 70, 3) := by decide +kernel
theorem dX12_layShine_10 : decode cX12_layShine 10 = .ok (.aload_n 0, 1) := by decide +kernel
theorem dX12_layShine_11 : decode cX12_layShine 11 = .ok (.getfield 9, 3) := by decide +kernel
theorem dX12_layShine_14 : decode cX12_layShine 14 = .ok (.sipush 448, 3) := by decide +kernel
theorem dX12_layShine_17 : decode cX12_layShine 17 = .ok (.iconst 2, 1) := by decide +kernel
theorem dX12_layShine_18 : decode cX12_layShine 18 = .ok (.iload_n 2, 1) := by decide +kernel
theorem dX12_layShine_19 : decode cX12_layShine 19 = .ok (.imul, 1) := by decide +kernel
theorem dX12_layShine_20 : decode cX12_layShine 20 = .ok (.iadd, 1) := by decide +kernel
theorem dX12_layShine_21 : decode cX12_layShine 21 = .ok (.iaload, 1) := by decide +kernel
theorem dX12_layShine_22 : decode cX12_layShine 22 = .ok (.istore_n 3, 1) := by decide +kernel
theorem dX12_layShine_23 : decode cX12_layShine 23 = .ok (.aload_n 0, 1) := by decide +kernel
theorem dX12_layShine_24 : decode cX12_layShine 24 = .ok (.getfield 33, 3) := by decide +kernel
theorem dX12_layShine_27 : decode cX12_layShine 27 = .ok (.iload_n 2, 1) := by decide +kernel
theorem dX12_layShine_28 : decode cX12_layShine 28 = .ok (.iload_n 3, 1) := by decide +kernel
theorem dX12_layShine_29 : decode cX12_layShine 29 = .ok (.iconst (-1), 1) := by decide +kernel
theorem dX12_layShine_30 : decode cX12_layShine 30 = .ok (.if_icmp .eq 39, 3) := by decide +kernel
theorem dX12_layShine_33 : decode cX12_layShine 33 = .ok (.aload_n 0, 1) := by decide +kernel
theorem dX12_layShine_34 : decode cX12_layShine 34 = .ok (.getfield 9, 3) := by decide +kernel
theorem dX12_layShine_37 : decode cX12_layShine 37 = .ok (.sipush 448, 3) := by decide +kernel
theorem dX12_layShine_40 : decode cX12_layShine 40 = .ok (.iconst 2, 1) := by decide +kernel
theorem dX12_layShine_41 : decode cX12_layShine 41 = .ok (.iload_n 2, 1) := by decide +kernel
theorem dX12_layShine_42 : decode cX12_layShine 42 = .ok (.imul, 1) := by decide +kernel
theorem dX12_layShine_43 : decode cX12_layShine 43 = .ok (.iadd, 1) := by decide +kernel
theorem dX12_layShine_44 : decode cX12_layShine 44 = .ok (.iconst 1, 1) := by decide +kernel
theorem dX12_layShine_45 : decode cX12_layShine 45 = .ok (.iadd, 1) := by decide +kernel
theorem dX12_layShine_46 : decode cX12_layShine 46 = .ok (.iaload, 1) := by decide +kernel
theorem dX12_layShine_47 : decode cX12_layShine 47 = .ok (.iload_n 1, 1) := by decide +kernel
theorem dX12_layShine_48 : decode cX12_layShine 48 = .ok (.invokestatic 246, 3) := by decide +kernel
theorem dX12_layShine_51 : decode cX12_layShine 51 = .ok (.ifCond .eq 18, 3) := by decide +kernel
theorem dX12_layShine_54 : decode cX12_layShine 54 = .ok (.aload_n 0, 1) := by decide +kernel
theorem dX12_layShine_55 : decode cX12_layShine 55 = .ok (.getfield 9, 3) := by decide +kernel
theorem dX12_layShine_58 : decode cX12_layShine 58 = .ok (.sipush 248, 3) := by decide +kernel
theorem dX12_layShine_61 : decode cX12_layShine 61 = .ok (.iconst 2, 1) := by decide +kernel
theorem dX12_layShine_62 : decode cX12_layShine 62 = .ok (.iload_n 3, 1) := by decide +kernel
theorem dX12_layShine_63 : decode cX12_layShine 63 = .ok (.imul, 1) := by decide +kernel
theorem dX12_layShine_64 : decode cX12_layShine 64 = .ok (.iadd, 1) := by decide +kernel
theorem dX12_layShine_65 : decode cX12_layShine 65 = .ok (.iaload, 1) := by decide +kernel
theorem dX12_layShine_66 : decode cX12_layShine 66 = .ok (.goto 4, 3) := by decide +kernel
theorem dX12_layShine_69 : decode cX12_layShine 69 = .ok (.iconst 0, 1) := by decide +kernel
theorem dX12_layShine_70 : decode cX12_layShine 70 = .ok (.iastore, 1) := by decide +kernel
theorem dX12_layShine_71 : decode cX12_layShine 71 = .ok (.iinc 2 1, 3) := by decide +kernel
theorem dX12_layShine_74 : decode cX12_layShine 74 = .ok (.goto (-72), 3) := by decide +kernel
theorem dX12_layShine_77 : decode cX12_layShine 77 = .ok (.return_, 1) := by decide +kernel
theorem dX12_lightOf_0 : decode cX12_lightOf 0 = .ok (.iconst 0, 1) := by decide +kernel
theorem dX12_lightOf_1 : decode cX12_lightOf 1 = .ok (.istore_n 2, 1) := by decide +kernel
theorem dX12_lightOf_2 : decode cX12_lightOf 2 = .ok (.bipush 8, 2) := by decide +kernel
theorem dX12_lightOf_4 : decode cX12_lightOf 4 = .ok (.istore_n 3, 1) := by decide +kernel
theorem dX12_lightOf_5 : decode cX12_lightOf 5 = .ok (.iload_n 3, 1) := by decide +kernel
theorem dX12_lightOf_6 : decode cX12_lightOf 6 = .ok (.bipush 8, 2) := by decide +kernel
theorem dX12_lightOf_8 : decode cX12_lightOf 8 = .ok (.iconst 4, 1) := by decide +kernel
theorem dX12_lightOf_9 : decode cX12_lightOf 9 = .ok (.aload_n 0, 1) := by decide +kernel
theorem dX12_lightOf_10 : decode cX12_lightOf 10 = .ok (.getfield 9, 3) := by decide +kernel
theorem dX12_lightOf_13 : decode cX12_lightOf 13 = .ok (.iconst 2, 1) := by decide +kernel
theorem dX12_lightOf_14 : decode cX12_lightOf 14 = .ok (.iaload, 1) := by decide +kernel
theorem dX12_lightOf_15 : decode cX12_lightOf 15 = .ok (.imul, 1) := by decide +kernel
theorem dX12_lightOf_16 : decode cX12_lightOf 16 = .ok (.iadd, 1) := by decide +kernel
theorem dX12_lightOf_17 : decode cX12_lightOf 17 = .ok (.if_icmp .ge 97, 3) := by decide +kernel
theorem dX12_lightOf_20 : decode cX12_lightOf 20 = .ok (.aload_n 0, 1) := by decide +kernel
theorem dX12_lightOf_21 : decode cX12_lightOf 21 = .ok (.getfield 9, 3) := by decide +kernel
theorem dX12_lightOf_24 : decode cX12_lightOf 24 = .ok (.iload_n 3, 1) := by decide +kernel
theorem dX12_lightOf_25 : decode cX12_lightOf 25 = .ok (.iconst 1, 1) := by decide +kernel
theorem dX12_lightOf_26 : decode cX12_lightOf 26 = .ok (.iadd, 1) := by decide +kernel
theorem dX12_lightOf_27 : decode cX12_lightOf 27 = .ok (.iaload, 1) := by decide +kernel
theorem dX12_lightOf_28 : decode cX12_lightOf 28 = .ok (.iload_n 1, 1) := by decide +kernel
theorem dX12_lightOf_29 : decode cX12_lightOf 29 = .ok (.if_icmp .ne 29, 3) := by decide +kernel
theorem dX12_lightOf_32 : decode cX12_lightOf 32 = .ok (.iload_n 2, 1) := by decide +kernel
theorem dX12_lightOf_33 : decode cX12_lightOf 33 = .ok (.aload_n 0, 1) := by decide +kernel
theorem dX12_lightOf_34 : decode cX12_lightOf 34 = .ok (.getfield 33, 3) := by decide +kernel
theorem dX12_lightOf_37 : decode cX12_lightOf 37 = .ok (.aload_n 0, 1) := by decide +kernel
theorem dX12_lightOf_38 : decode cX12_lightOf 38 = .ok (.getfield 9, 3) := by decide +kernel
theorem dX12_lightOf_41 : decode cX12_lightOf 41 = .ok (.iload_n 3, 1) := by decide +kernel
theorem dX12_lightOf_42 : decode cX12_lightOf 42 = .ok (.iaload, 1) := by decide +kernel
theorem dX12_lightOf_43 : decode cX12_lightOf 43 = .ok (.iaload, 1) := by decide +kernel
theorem dX12_lightOf_44 : decode cX12_lightOf 44 = .ok (.aload_n 0, 1) := by decide +kernel
theorem dX12_lightOf_45 : decode cX12_lightOf 45 = .ok (.getfield 9, 3) := by decide +kernel
theorem dX12_lightOf_48 : decode cX12_lightOf 48 = .ok (.iload_n 3, 1) := by decide +kernel
theorem dX12_lightOf_49 : decode cX12_lightOf 49 = .ok (.iconst 2, 1) := by decide +kernel
theorem dX12_lightOf_50 : decode cX12_lightOf 50 = .ok (.iadd, 1) := by decide +kernel
theorem dX12_lightOf_51 : decode cX12_lightOf 51 = .ok (.iaload, 1) := by decide +kernel
theorem dX12_lightOf_52 : decode cX12_lightOf 52 = .ok (.imul, 1) := by decide +kernel
theorem dX12_lightOf_53 : decode cX12_lightOf 53 = .ok (.bipush 100, 2) := by decide +kernel
theorem dX12_lightOf_55 : decode cX12_lightOf 55 = .ok (.idiv, 1) := by decide +kernel
theorem dX12_lightOf_56 : decode cX12_lightOf 56 = .ok (.iadd, 1) := by decide +kernel
theorem dX12_lightOf_57 : decode cX12_lightOf 57 = .ok (.istore_n 2, 1) := by decide +kernel
theorem dX12_lightOf_58 : decode cX12_lightOf 58 = .ok (.aload_n 0, 1) := by decide +kernel
theorem dX12_lightOf_59 : decode cX12_lightOf 59 = .ok (.getfield 9, 3) := by decide +kernel
theorem dX12_lightOf_62 : decode cX12_lightOf 62 = .ok (.iload_n 3, 1) := by decide +kernel
theorem dX12_lightOf_63 : decode cX12_lightOf 63 = .ok (.iconst 3, 1) := by decide +kernel
theorem dX12_lightOf_64 : decode cX12_lightOf 64 = .ok (.iadd, 1) := by decide +kernel
theorem dX12_lightOf_65 : decode cX12_lightOf 65 = .ok (.iaload, 1) := by decide +kernel
theorem dX12_lightOf_66 : decode cX12_lightOf 66 = .ok (.iconst 1, 1) := by decide +kernel
theorem dX12_lightOf_67 : decode cX12_lightOf 67 = .ok (.if_icmp .ne 41, 3) := by decide +kernel
theorem dX12_lightOf_70 : decode cX12_lightOf 70 = .ok (.aload_n 0, 1) := by decide +kernel
theorem dX12_lightOf_71 : decode cX12_lightOf 71 = .ok (.getfield 9, 3) := by decide +kernel
theorem dX12_lightOf_74 : decode cX12_lightOf 74 = .ok (.iload_n 3, 1) := by decide +kernel
theorem dX12_lightOf_75 : decode cX12_lightOf 75 = .ok (.iaload, 1) := by decide +kernel
theorem dX12_lightOf_76 : decode cX12_lightOf 76 = .ok (.iload_n 1, 1) := by decide +kernel
theorem dX12_lightOf_77 : decode cX12_lightOf 77 = .ok (.if_icmp .ne 31, 3) := by decide +kernel
theorem dX12_lightOf_80 : decode cX12_lightOf 80 = .ok (.iload_n 2, 1) := by decide +kernel
theorem dX12_lightOf_81 : decode cX12_lightOf 81 = .ok (.aload_n 0, 1) := by decide +kernel
theorem dX12_lightOf_82 : decode cX12_lightOf 82 = .ok (.getfield 33, 3) := by decide +kernel
theorem dX12_lightOf_85 : decode cX12_lightOf 85 = .ok (.aload_n 0, 1) := by decide +kernel
theorem dX12_lightOf_86 : decode cX12_lightOf 86 = .ok (.getfield 9, 3) := by decide +kernel
theorem dX12_lightOf_89 : decode cX12_lightOf 89 = .ok (.iload_n 3, 1) := by decide +kernel
theorem dX12_lightOf_90 : decode cX12_lightOf 90 = .ok (.iconst 1, 1) := by decide +kernel
theorem dX12_lightOf_91 : decode cX12_lightOf 91 = .ok (.iadd, 1) := by decide +kernel
theorem dX12_lightOf_92 : decode cX12_lightOf 92 = .ok (.iaload, 1) := by decide +kernel
theorem dX12_lightOf_93 : decode cX12_lightOf 93 = .ok (.iaload, 1) := by decide +kernel
theorem dX12_lightOf_94 : decode cX12_lightOf 94 = .ok (.aload_n 0, 1) := by decide +kernel
theorem dX12_lightOf_95 : decode cX12_lightOf 95 = .ok (.getfield 9, 3) := by decide +kernel
theorem dX12_lightOf_98 : decode cX12_lightOf 98 = .ok (.iload_n 3, 1) := by decide +kernel
theorem dX12_lightOf_99 : decode cX12_lightOf 99 = .ok (.iconst 2, 1) := by decide +kernel
theorem dX12_lightOf_100 : decode cX12_lightOf 100 = .ok (.iadd, 1) := by decide +kernel
theorem dX12_lightOf_101 : decode cX12_lightOf 101 = .ok (.iaload, 1) := by decide +kernel
theorem dX12_lightOf_102 : decode cX12_lightOf 102 = .ok (.imul, 1) := by decide +kernel
theorem dX12_lightOf_103 : decode cX12_lightOf 103 = .ok (.bipush 100, 2) := by decide +kernel
theorem dX12_lightOf_105 : decode cX12_lightOf 105 = .ok (.idiv, 1) := by decide +kernel
theorem dX12_lightOf_106 : decode cX12_lightOf 106 = .ok (.iadd, 1) := by decide +kernel
theorem dX12_lightOf_107 : decode cX12_lightOf 107 = .ok (.istore_n 2, 1) := by decide +kernel
theorem dX12_lightOf_108 : decode cX12_lightOf 108 = .ok (.iinc 3 4, 3) := by decide +kernel
theorem dX12_lightOf_111 : decode cX12_lightOf 111 = .ok (.goto (-106), 3) := by decide +kernel
theorem dX12_lightOf_114 : decode cX12_lightOf 114 = .ok (.iload_n 2, 1) := by decide +kernel
theorem dX12_lightOf_115 : decode cX12_lightOf 115 = .ok (.ireturn, 1) := by decide +kernel
theorem dX12_isWanted_0 : decode cX12_isWanted 0 = .ok (.iload_n 2, 1) := by decide +kernel
theorem dX12_isWanted_1 : decode cX12_isWanted 1 = .ok (.i2l, 1) := by decide +kernel
theorem dX12_isWanted_2 : decode cX12_isWanted 2 = .ok (.aload_n 0, 1) := by decide +kernel
theorem dX12_isWanted_3 : decode cX12_isWanted 3 = .ok (.getfield 9, 3) := by decide +kernel
theorem dX12_isWanted_6 : decode cX12_isWanted 6 = .ok (.sipush 256, 3) := by decide +kernel
theorem dX12_isWanted_9 : decode cX12_isWanted 9 = .ok (.iconst 5, 1) := by decide +kernel
theorem dX12_isWanted_10 : decode cX12_isWanted 10 = .ok (.iload_n 1, 1) := by decide +kernel
theorem dX12_isWanted_11 : decode cX12_isWanted 11 = .ok (.imul, 1) := by decide +kernel
theorem dX12_isWanted_12 : decode cX12_isWanted 12 = .ok (.iadd, 1) := by decide +kernel
theorem dX12_isWanted_13 : decode cX12_isWanted 13 = .ok (.iconst 3, 1) := by decide +kernel
theorem dX12_isWanted_14 : decode cX12_isWanted 14 = .ok (.iadd, 1) := by decide +kernel
theorem dX12_isWanted_15 : decode cX12_isWanted 15 = .ok (.iaload, 1) := by decide +kernel
theorem dX12_isWanted_16 : decode cX12_isWanted 16 = .ok (.i2l, 1) := by decide +kernel
theorem dX12_isWanted_17 : decode cX12_isWanted 17 = .ok (.aload_n 0, 1) := by decide +kernel
theorem dX12_isWanted_18 : decode cX12_isWanted 18 = .ok (.getfield 9, 3) := by decide +kernel
theorem dX12_isWanted_21 : decode cX12_isWanted 21 = .ok (.sipush 256, 3) := by decide +kernel
theorem dX12_isWanted_24 : decode cX12_isWanted 24 = .ok (.iconst 5, 1) := by decide +kernel
theorem dX12_isWanted_25 : decode cX12_isWanted 25 = .ok (.iload_n 1, 1) := by decide +kernel
theorem dX12_isWanted_26 : decode cX12_isWanted 26 = .ok (.imul, 1) := by decide +kernel
theorem dX12_isWanted_27 : decode cX12_isWanted 27 = .ok (.iadd, 1) := by decide +kernel
theorem dX12_isWanted_28 : decode cX12_isWanted 28 = .ok (.iconst 4, 1) := by decide +kernel
theorem dX12_isWanted_29 : decode cX12_isWanted 29 = .ok (.iadd, 1) := by decide +kernel
theorem dX12_isWanted_30 : decode cX12_isWanted 30 = .ok (.iaload, 1) := by decide +kernel
theorem dX12_isWanted_31 : decode cX12_isWanted 31 = .ok (.i2l, 1) := by decide +kernel
theorem dX12_isWanted_32 : decode cX12_isWanted 32 = .ok (.invokestatic 134, 3) := by decide +kernel
theorem dX12_isWanted_35 : decode cX12_isWanted 35 = .ok (.ireturn, 1) := by decide +kernel
theorem dX12_darkBy_0 : decode cX12_darkBy 0 = .ok (.iconst 0, 1) := by decide +kernel
theorem dX12_darkBy_1 : decode cX12_darkBy 1 = .ok (.istore_n 2, 1) := by decide +kernel
theorem dX12_darkBy_2 : decode cX12_darkBy 2 = .ok (.iconst 0, 1) := by decide +kernel
theorem dX12_darkBy_3 : decode cX12_darkBy 3 = .ok (.istore_n 3, 1) := by decide +kernel
theorem dX12_darkBy_4 : decode cX12_darkBy 4 = .ok (.iload_n 3, 1) := by decide +kernel
theorem dX12_darkBy_5 : decode cX12_darkBy 5 = .ok (.aload_n 0, 1) := by decide +kernel
theorem dX12_darkBy_6 : decode cX12_darkBy 6 = .ok (.getfield 9, 3) := by decide +kernel
theorem dX12_darkBy_9 : decode cX12_darkBy 9 = .ok (.iconst 4, 1) := by decide +kernel
theorem dX12_darkBy_10 : decode cX12_darkBy 10 = .ok (.iaload, 1) := by decide +kernel
theorem dX12_darkBy_11 : decode cX12_darkBy 11 = .ok (.if_icmp .ge 85, 3) := by decide +kernel
theorem dX12_darkBy_14 : decode cX12_darkBy 14 = .ok (.aload_n 0, 1) := by decide +kernel
theorem dX12_darkBy_15 : decode cX12_darkBy 15 = .ok (.iload_n 3, 1) := by decide +kernel
theorem dX12_darkBy_16 : decode cX12_darkBy 16 = .ok (.iload_n 1, 1) := by decide +kernel
theorem dX12_darkBy_17 : decode cX12_darkBy 17 = .ok (.invokevirtual 250, 3) := by decide +kernel
theorem dX12_darkBy_20 : decode cX12_darkBy 20 = .ok (.ifCond .ne 6, 3) := by decide +kernel
theorem dX12_darkBy_23 : decode cX12_darkBy 23 = .ok (.goto 67, 3) := by decide +kernel
theorem dX12_darkBy_26 : decode cX12_darkBy 26 = .ok (.aload_n 0, 1) := by decide +kernel
theorem dX12_darkBy_27 : decode cX12_darkBy 27 = .ok (.getfield 9, 3) := by decide +kernel
theorem dX12_darkBy_30 : decode cX12_darkBy 30 = .ok (.sipush 256, 3) := by decide +kernel
theorem dX12_darkBy_33 : decode cX12_darkBy 33 = .ok (.iconst 5, 1) := by decide +kernel
theorem dX12_darkBy_34 : decode cX12_darkBy 34 = .ok (.iload_n 3, 1) := by decide +kernel
theorem dX12_darkBy_35 : decode cX12_darkBy 35 = .ok (.imul, 1) := by decide +kernel
theorem dX12_darkBy_36 : decode cX12_darkBy 36 = .ok (.iadd, 1) := by decide +kernel
theorem dX12_darkBy_37 : decode cX12_darkBy 37 = .ok (.iaload, 1) := by decide +kernel
theorem dX12_darkBy_38 : decode cX12_darkBy 38 = .ok (.istore 4, 2) := by decide +kernel
theorem dX12_darkBy_40 : decode cX12_darkBy 40 = .ok (.aload_n 0, 1) := by decide +kernel
theorem dX12_darkBy_41 : decode cX12_darkBy 41 = .ok (.iload 4, 2) := by decide +kernel
theorem dX12_darkBy_43 : decode cX12_darkBy 43 = .ok (.invokevirtual 253, 3) := by decide +kernel
theorem dX12_darkBy_46 : decode cX12_darkBy 46 = .ok (.i2l, 1) := by decide +kernel
theorem dX12_darkBy_47 : decode cX12_darkBy 47 = .ok (.aload_n 0, 1) := by decide +kernel
theorem dX12_darkBy_48 : decode cX12_darkBy 48 = .ok (.getfield 9, 3) := by decide +kernel
theorem dX12_darkBy_51 : decode cX12_darkBy 51 = .ok (.sipush 256, 3) := by decide +kernel
theorem dX12_darkBy_54 : decode cX12_darkBy 54 = .ok (.iconst 5, 1) := by decide +kernel
theorem dX12_darkBy_55 : decode cX12_darkBy 55 = .ok (.iload_n 3, 1) := by decide +kernel
theorem dX12_darkBy_56 : decode cX12_darkBy 56 = .ok (.imul, 1) := by decide +kernel
theorem dX12_darkBy_57 : decode cX12_darkBy 57 = .ok (.iadd, 1) := by decide +kernel
theorem dX12_darkBy_58 : decode cX12_darkBy 58 = .ok (.iconst 1, 1) := by decide +kernel
theorem dX12_darkBy_59 : decode cX12_darkBy 59 = .ok (.iadd, 1) := by decide +kernel
theorem dX12_darkBy_60 : decode cX12_darkBy 60 = .ok (.iaload, 1) := by decide +kernel
theorem dX12_darkBy_61 : decode cX12_darkBy 61 = .ok (.i2l, 1) := by decide +kernel
theorem dX12_darkBy_62 : decode cX12_darkBy 62 = .ok (.aload_n 0, 1) := by decide +kernel
theorem dX12_darkBy_63 : decode cX12_darkBy 63 = .ok (.getfield 9, 3) := by decide +kernel
theorem dX12_darkBy_66 : decode cX12_darkBy 66 = .ok (.sipush 256, 3) := by decide +kernel
theorem dX12_darkBy_69 : decode cX12_darkBy 69 = .ok (.iconst 5, 1) := by decide +kernel
theorem dX12_darkBy_70 : decode cX12_darkBy 70 = .ok (.iload_n 3, 1) := by decide +kernel
theorem dX12_darkBy_71 : decode cX12_darkBy 71 = .ok (.imul, 1) := by decide +kernel
theorem dX12_darkBy_72 : decode cX12_darkBy 72 = .ok (.iadd, 1) := by decide +kernel
theorem dX12_darkBy_73 : decode cX12_darkBy 73 = .ok (.iconst 2, 1) := by decide +kernel
theorem dX12_darkBy_74 : decode cX12_darkBy 74 = .ok (.iadd, 1) := by decide +kernel
theorem dX12_darkBy_75 : decode cX12_darkBy 75 = .ok (.iaload, 1) := by decide +kernel
theorem dX12_darkBy_76 : decode cX12_darkBy 76 = .ok (.i2l, 1) := by decide +kernel
theorem dX12_darkBy_77 : decode cX12_darkBy 77 = .ok (.invokestatic 134, 3) := by decide +kernel
theorem dX12_darkBy_80 : decode cX12_darkBy 80 = .ok (.ifCond .ne 10, 3) := by decide +kernel
theorem dX12_darkBy_83 : decode cX12_darkBy 83 = .ok (.iload_n 2, 1) := by decide +kernel
theorem dX12_darkBy_84 : decode cX12_darkBy 84 = .ok (.iconst 1, 1) := by decide +kernel
theorem dX12_darkBy_85 : decode cX12_darkBy 85 = .ok (.iload 4, 2) := by decide +kernel
theorem dX12_darkBy_87 : decode cX12_darkBy 87 = .ok (.ishl, 1) := by decide +kernel
theorem dX12_darkBy_88 : decode cX12_darkBy 88 = .ok (.ior, 1) := by decide +kernel
theorem dX12_darkBy_89 : decode cX12_darkBy 89 = .ok (.istore_n 2, 1) := by decide +kernel
theorem dX12_darkBy_90 : decode cX12_darkBy 90 = .ok (.iinc 3 1, 3) := by decide +kernel
theorem dX12_darkBy_93 : decode cX12_darkBy 93 = .ok (.goto (-89), 3) := by decide +kernel
theorem dX12_darkBy_96 : decode cX12_darkBy 96 = .ok (.iload_n 2, 1) := by decide +kernel
theorem dX12_darkBy_97 : decode cX12_darkBy 97 = .ok (.ireturn, 1) := by decide +kernel
theorem dX12_darkIn_0 : decode cX12_darkIn 0 = .ok (.aload_n 0, 1) := by decide +kernel
theorem dX12_darkIn_1 : decode cX12_darkIn 1 = .ok (.iload_n 1, 1) := by decide +kernel
theorem dX12_darkIn_2 : decode cX12_darkIn 2 = .ok (.invokevirtual 256, 3) := by decide +kernel
theorem dX12_darkIn_5 : decode cX12_darkIn 5 = .ok (.aload_n 0, 1) := by decide +kernel
theorem dX12_darkIn_6 : decode cX12_darkIn 6 = .ok (.iload_n 1, 1) := by decide +kernel
theorem dX12_darkIn_7 : decode cX12_darkIn 7 = .ok (.invokevirtual 259, 3) := by decide +kernel
theorem dX12_darkIn_10 : decode cX12_darkIn 10 = .ok (.ireturn, 1) := by decide +kernel
theorem dX12_hang_0 : decode cX12_hang 0 = .ok (.aload_n 0, 1) := by decide +kernel
theorem dX12_hang_1 : decode cX12_hang 1 = .ok (.iconst 0, 1) := by decide +kernel
theorem dX12_hang_2 : decode cX12_hang 2 = .ok (.putfield 75, 3) := by decide +kernel
theorem dX12_hang_5 : decode cX12_hang 5 = .ok (.aload_n 0, 1) := by decide +kernel
theorem dX12_hang_6 : decode cX12_hang 6 = .ok (.iload_n 1, 1) := by decide +kernel
theorem dX12_hang_7 : decode cX12_hang 7 = .ok (.invokevirtual 240, 3) := by decide +kernel
theorem dX12_hang_10 : decode cX12_hang 10 = .ok (.ifCond .eq 16, 3) := by decide +kernel
theorem dX12_hang_13 : decode cX12_hang 13 = .ok (.iload_n 2, 1) := by decide +kernel
theorem dX12_hang_14 : decode cX12_hang 14 = .ok (.iconst (-1), 1) := by decide +kernel
theorem dX12_hang_15 : decode cX12_hang 15 = .ok (.if_icmp .eq 17, 3) := by decide +kernel
theorem dX12_hang_18 : decode cX12_hang 18 = .ok (.aload_n 0, 1) := by decide +kernel
theorem dX12_hang_19 : decode cX12_hang 19 = .ok (.iload_n 2, 1) := by decide +kernel
theorem dX12_hang_20 : decode cX12_hang 20 = .ok (.invokevirtual 237, 3) := by decide +kernel
theorem dX12_hang_23 : decode cX12_hang 23 = .ok (.ifCond .ne 9, 3) := by decide +kernel
theorem dX12_hang_26 : decode cX12_hang 26 = .ok (.aload_n 0, 1) := by decide +kernel
theorem dX12_hang_27 : decode cX12_hang 27 = .ok (.iconst 1, 1) := by decide +kernel
theorem dX12_hang_28 : decode cX12_hang 28 = .ok (.invokevirtual 219, 3) := by decide +kernel
theorem dX12_hang_31 : decode cX12_hang 31 = .ok (.ireturn, 1) := by decide +kernel
theorem dX12_hang_32 : decode cX12_hang 32 = .ok (.iload_n 3, 1) := by decide +kernel
theorem dX12_hang_33 : decode cX12_hang 33 = .ok (.i2l, 1) := by decide +kernel
theorem dX12_hang_34 : decode cX12_hang 34 = .ok (.lconst 0, 1) := by decide +kernel
theorem dX12_hang_35 : decode cX12_hang 35 = .ok (.ldc2_w 262, 3) := by decide +kernel
theorem dX12_hang_38 : decode cX12_hang 38 = .ok (.invokestatic 134, 3) := by decide +kernel
theorem dX12_hang_41 : decode cX12_hang 41 = .ok (.ifCond .ne 9, 3) := by decide +kernel
theorem dX12_hang_44 : decode cX12_hang 44 = .ok (.aload_n 0, 1) := by decide +kernel
theorem dX12_hang_45 : decode cX12_hang 45 = .ok (.iconst 2, 1) := by decide +kernel
theorem dX12_hang_46 : decode cX12_hang 46 = .ok (.invokevirtual 219, 3) := by decide +kernel
theorem dX12_hang_49 : decode cX12_hang 49 = .ok (.ireturn, 1) := by decide +kernel
theorem dX12_hang_50 : decode cX12_hang 50 = .ok (.aload_n 0, 1) := by decide +kernel
theorem dX12_hang_51 : decode cX12_hang 51 = .ok (.getfield 9, 3) := by decide +kernel
theorem dX12_hang_54 : decode cX12_hang 54 = .ok (.sipush 448, 3) := by decide +kernel
theorem dX12_hang_57 : decode cX12_hang 57 = .ok (.iconst 2, 1) := by decide +kernel
theorem dX12_hang_58 : decode cX12_hang 58 = .ok (.iload_n 1, 1) := by decide +kernel
theorem dX12_hang_59 : decode cX12_hang 59 = .ok (.imul, 1) := by decide +kernel
theorem dX12_hang_60 : decode cX12_hang 60 = .ok (.iadd, 1) := by decide +kernel
theorem dX12_hang_61 : decode cX12_hang 61 = .ok (.iaload, 1) := by decide +kernel
theorem dX12_hang_62 : decode cX12_hang 62 = .ok (.istore 4, 2) := by decide +kernel
theorem dX12_hang_64 : decode cX12_hang 64 = .ok (.aload_n 0, 1) := by decide +kernel
theorem dX12_hang_65 : decode cX12_hang 65 = .ok (.iload_n 1, 1) := by decide +kernel
theorem dX12_hang_66 : decode cX12_hang 66 = .ok (.iload_n 2, 1) := by decide +kernel
theorem dX12_hang_67 : decode cX12_hang 67 = .ok (.iload_n 3, 1) := by decide +kernel
theorem dX12_hang_68 : decode cX12_hang 68 = .ok (.invokevirtual 264, 3) := by decide +kernel
theorem dX12_hang_71 : decode cX12_hang 71 = .ok (.iload 4, 2) := by decide +kernel
theorem dX12_hang_73 : decode cX12_hang 73 = .ok (.ireturn, 1) := by decide +kernel
theorem dX12_hangs_0 : decode cX12_hangs 0 = .ok (.aload_n 0, 1) := by decide +kernel
theorem dX12_hangs_1 : decode cX12_hangs 1 = .ok (.getfield 9, 3) := by decide +kernel
theorem dX12_hangs_4 : decode cX12_hangs 4 = .ok (.sipush 448, 3) := by decide +kernel
theorem dX12_hangs_7 : decode cX12_hangs 7 = .ok (.iconst 2, 1) := by decide +kernel
theorem dX12_hangs_8 : decode cX12_hangs 8 = .ok (.iload_n 1, 1) := by decide +kernel
theorem dX12_hangs_9 : decode cX12_hangs 9 = .ok (.imul, 1) := by decide +kernel
theorem dX12_hangs_10 : decode cX12_hangs 10 = .ok (.iadd, 1) := by decide +kernel
theorem dX12_hangs_11 : decode cX12_hangs 11 = .ok (.iload_n 2, 1) := by decide +kernel
theorem dX12_hangs_12 : decode cX12_hangs 12 = .ok (.iastore, 1) := by decide +kernel
theorem dX12_hangs_13 : decode cX12_hangs 13 = .ok (.aload_n 0, 1) := by decide +kernel
theorem dX12_hangs_14 : decode cX12_hangs 14 = .ok (.getfield 9, 3) := by decide +kernel
theorem dX12_hangs_17 : decode cX12_hangs 17 = .ok (.sipush 448, 3) := by decide +kernel
theorem dX12_hangs_20 : decode cX12_hangs 20 = .ok (.iconst 2, 1) := by decide +kernel
theorem dX12_hangs_21 : decode cX12_hangs 21 = .ok (.iload_n 1, 1) := by decide +kernel
theorem dX12_hangs_22 : decode cX12_hangs 22 = .ok (.imul, 1) := by decide +kernel
theorem dX12_hangs_23 : decode cX12_hangs 23 = .ok (.iadd, 1) := by decide +kernel
theorem dX12_hangs_24 : decode cX12_hangs 24 = .ok (.iconst 1, 1) := by decide +kernel
theorem dX12_hangs_25 : decode cX12_hangs 25 = .ok (.iadd, 1) := by decide +kernel
theorem dX12_hangs_26 : decode cX12_hangs 26 = .ok (.iload_n 2, 1) := by decide +kernel
theorem dX12_hangs_27 : decode cX12_hangs 27 = .ok (.iconst (-1), 1) := by decide +kernel
theorem dX12_hangs_28 : decode cX12_hangs 28 = .ok (.if_icmp .ne 7, 3) := by decide +kernel
theorem dX12_hangs_31 : decode cX12_hangs 31 = .ok (.iconst 0, 1) := by decide +kernel
theorem dX12_hangs_32 : decode cX12_hangs 32 = .ok (.goto 4, 3) := by decide +kernel
theorem dX12_hangs_35 : decode cX12_hangs 35 = .ok (.iload_n 3, 1) := by decide +kernel
theorem dX12_hangs_36 : decode cX12_hangs 36 = .ok (.iastore, 1) := by decide +kernel
theorem dX12_hangs_37 : decode cX12_hangs 37 = .ok (.return_, 1) := by decide +kernel
theorem dX12_of_0 : decode cX12_of 0 = .ok (.aload_n 0, 1) := by decide +kernel
theorem dX12_of_1 : decode cX12_of 1 = .ok (.iconst 0, 1) := by decide +kernel
theorem dX12_of_2 : decode cX12_of 2 = .ok (.putfield 75, 3) := by decide +kernel
theorem dX12_of_5 : decode cX12_of 5 = .ok (.aload_n 0, 1) := by decide +kernel
theorem dX12_of_6 : decode cX12_of 6 = .ok (.iload_n 1, 1) := by decide +kernel
theorem dX12_of_7 : decode cX12_of 7 = .ok (.invokevirtual 240, 3) := by decide +kernel
theorem dX12_of_10 : decode cX12_of 10 = .ok (.ifCond .ne 9, 3) := by decide +kernel
theorem dX12_of_13 : decode cX12_of 13 = .ok (.aload_n 0, 1) := by decide +kernel
theorem dX12_of_14 : decode cX12_of 14 = .ok (.iconst 1, 1) := by decide +kernel
theorem dX12_of_15 : decode cX12_of 15 = .ok (.invokevirtual 219, 3) := by decide +kernel
theorem dX12_of_18 : decode cX12_of 18 = .ok (.ireturn, 1) := by decide +kernel
theorem dX12_of_19 : decode cX12_of 19 = .ok (.iload_n 2, 1) := by decide +kernel
theorem dX12_of_20 : decode cX12_of 20 = .ok (.i2l, 1) := by decide +kernel
theorem dX12_of_21 : decode cX12_of 21 = .ok (.lconst 0, 1) := by decide +kernel
theorem dX12_of_22 : decode cX12_of 22 = .ok (.ldc2_w 268, 3) := by decide +kernel
theorem dX12_of_25 : decode cX12_of 25 = .ok (.invokestatic 134, 3) := by decide +kernel
theorem dX12_of_28 : decode cX12_of 28 = .ok (.ifCond .ne 9, 3) := by decide +kernel
theorem dX12_of_31 : decode cX12_of 31 = .ok (.aload_n 0, 1) := by decide +kernel
theorem dX12_of_32 : decode cX12_of 32 = .ok (.iconst 2, 1) := by decide +kernel
theorem dX12_of_33 : decode cX12_of 33 = .ok (.invokevirtual 219, 3) := by decide +kernel
theorem dX12_of_36 : decode cX12_of 36 = .ok (.ireturn, 1) := by decide +kernel
theorem dX12_of_37 : decode cX12_of 37 = .ok (.iload_n 2, 1) := by decide +kernel
theorem dX12_of_38 : decode cX12_of 38 = .ok (.iconst 2, 1) := by decide +kernel
theorem dX12_of_39 : decode cX12_of 39 = .ok (.if_icmp .ne 16, 3) := by decide +kernel
theorem dX12_of_42 : decode cX12_of 42 = .ok (.aload_n 0, 1) := by decide +kernel
theorem dX12_of_43 : decode cX12_of 43 = .ok (.getfield 9, 3) := by decide +kernel
theorem dX12_of_46 : decode cX12_of 46 = .ok (.sipush 416, 3) := by decide +kernel
theorem dX12_of_49 : decode cX12_of 49 = .ok (.iload_n 1, 1) := by decide +kernel
theorem dX12_of_50 : decode cX12_of 50 = .ok (.iadd, 1) := by decide +kernel
theorem dX12_of_51 : decode cX12_of 51 = .ok (.iaload, 1) := by decide +kernel
theorem dX12_of_52 : decode cX12_of 52 = .ok (.goto 17, 3) := by decide +kernel
theorem dX12_of_55 : decode cX12_of 55 = .ok (.aload_n 0, 1) := by decide +kernel
theorem dX12_of_56 : decode cX12_of 56 = .ok (.getfield 9, 3) := by decide +kernel
theorem dX12_of_59 : decode cX12_of 59 = .ok (.sipush 448, 3) := by decide +kernel
theorem dX12_of_62 : decode cX12_of 62 = .ok (.iconst 2, 1) := by decide +kernel
theorem dX12_of_63 : decode cX12_of 63 = .ok (.iload_n 1, 1) := by decide +kernel
theorem dX12_of_64 : decode cX12_of 64 = .ok (.imul, 1) := by decide +kernel
theorem dX12_of_65 : decode cX12_of 65 = .ok (.iadd, 1) := by decide +kernel
theorem dX12_of_66 : decode cX12_of 66 = .ok (.iload_n 2, 1) := by decide +kernel
theorem dX12_of_67 : decode cX12_of 67 = .ok (.iadd, 1) := by decide +kernel
theorem dX12_of_68 : decode cX12_of 68 = .ok (.iaload, 1) := by decide +kernel
theorem dX12_of_69 : decode cX12_of 69 = .ok (.ireturn, 1) := by decide +kernel
theorem dX12_roomHour_0 : decode cX12_roomHour 0 = .ok (.aload_n 0, 1) := by decide +kernel
theorem dX12_roomHour_1 : decode cX12_roomHour 1 = .ok (.iload_n 1, 1) := by decide +kernel
theorem dX12_roomHour_2 : decode cX12_roomHour 2 = .ok (.invokevirtual 240, 3) := by decide +kernel
theorem dX12_roomHour_5 : decode cX12_roomHour 5 = .ok (.ifCond .ne 7, 3) := by decide +kernel
theorem dX12_roomHour_8 : decode cX12_roomHour 8 = .ok (.iconst 1, 1) := by decide +kernel
theorem dX12_roomHour_9 : decode cX12_roomHour 9 = .ok (.goto 15, 3) := by decide +kernel
theorem dX12_roomHour_12 : decode cX12_roomHour 12 = .ok (.iload_n 2, 1) := by decide +kernel
theorem dX12_roomHour_13 : decode cX12_roomHour 13 = .ok (.invokestatic 270, 3) := by decide +kernel
theorem dX12_roomHour_16 : decode cX12_roomHour 16 = .ok (.ifCond .eq 7, 3) := by decide +kernel
theorem dX12_roomHour_19 : decode cX12_roomHour 19 = .ok (.iconst 0, 1) := by decide +kernel
theorem dX12_roomHour_20 : decode cX12_roomHour 20 = .ok (.goto 4, 3) := by decide +kernel
theorem dX12_roomHour_23 : decode cX12_roomHour 23 = .ok (.iconst 2, 1) := by decide +kernel
theorem dX12_roomHour_24 : decode cX12_roomHour 24 = .ok (.ireturn, 1) := by decide +kernel
theorem dX12_light_0 : decode cX12_light 0 = .ok (.aload_n 0, 1) := by decide +kernel
theorem dX12_light_1 : decode cX12_light 1 = .ok (.aload_n 0, 1) := by decide +kernel
theorem dX12_light_2 : decode cX12_light 2 = .ok (.iload_n 1, 1) := by decide +kernel
theorem dX12_light_3 : decode cX12_light 3 = .ok (.iload_n 2, 1) := by decide +kernel
theorem dX12_light_4 : decode cX12_light 4 = .ok (.invokevirtual 273, 3) := by decide +kernel
theorem dX12_light_7 : decode cX12_light 7 = .ok (.putfield 75, 3) := by decide +kernel
theorem dX12_light_10 : decode cX12_light 10 = .ok (.aload_n 0, 1) := by decide +kernel
theorem dX12_light_11 : decode cX12_light 11 = .ok (.getfield 75, 3) := by decide +kernel
theorem dX12_light_14 : decode cX12_light 14 = .ok (.ifCond .le 5, 3) := by decide +kernel
theorem dX12_light_17 : decode cX12_light 17 = .ok (.iconst 0, 1) := by decide +kernel
theorem dX12_light_18 : decode cX12_light 18 = .ok (.ireturn, 1) := by decide +kernel
theorem dX12_light_19 : decode cX12_light 19 = .ok (.aload_n 0, 1) := by decide +kernel
theorem dX12_light_20 : decode cX12_light 20 = .ok (.iload_n 2, 1) := by decide +kernel
theorem dX12_light_21 : decode cX12_light 21 = .ok (.invokevirtual 256, 3) := by decide +kernel
theorem dX12_light_24 : decode cX12_light 24 = .ok (.aload_n 0, 1) := by decide +kernel
theorem dX12_light_25 : decode cX12_light 25 = .ok (.iload_n 1, 1) := by decide +kernel
theorem dX12_light_26 : decode cX12_light 26 = .ok (.invokevirtual 253, 3) := by decide +kernel
theorem dX12_light_29 : decode cX12_light 29 = .ok (.ireturn, 1) := by decide +kernel
theorem dX12_shining_0 : decode cX12_shining 0 = .ok (.iconst 0, 1) := by decide +kernel
theorem dX12_shining_1 : decode cX12_shining 1 = .ok (.istore_n 1, 1) := by decide +kernel
theorem dX12_shining_2 : decode cX12_shining 2 = .ok (.iconst 0, 1) := by decide +kernel
theorem dX12_shining_3 : decode cX12_shining 3 = .ok (.istore_n 2, 1) := by decide +kernel
theorem dX12_shining_4 : decode cX12_shining 4 = .ok (.iload_n 2, 1) := by decide +kernel
theorem dX12_shining_5 : decode cX12_shining 5 = .ok (.aload_n 0, 1) := by decide +kernel
theorem dX12_shining_6 : decode cX12_shining 6 = .ok (.invokevirtual 228, 3) := by decide +kernel
theorem dX12_shining_9 : decode cX12_shining 9 = .ok (.if_icmp .ge 28, 3) := by decide +kernel
theorem dX12_shining_12 : decode cX12_shining 12 = .ok (.iload_n 1, 1) := by decide +kernel
theorem dX12_shining_13 : decode cX12_shining 13 = .ok (.aload_n 0, 1) := by decide +kernel
theorem dX12_shining_14 : decode cX12_shining 14 = .ok (.getfield 33, 3) := by decide +kernel
theorem dX12_shining_17 : decode cX12_shining 17 = .ok (.iload_n 2, 1) := by decide +kernel
theorem dX12_shining_18 : decode cX12_shining 18 = .ok (.iaload, 1) := by decide +kernel
theorem dX12_shining_19 : decode cX12_shining 19 = .ok (.ifCond .le 9, 3) := by decide +kernel
theorem dX12_shining_22 : decode cX12_shining 22 = .ok (.iconst 1, 1) := by decide +kernel
theorem dX12_shining_23 : decode cX12_shining 23 = .ok (.iload_n 2, 1) := by decide +kernel
theorem dX12_shining_24 : decode cX12_shining 24 = .ok (.ishl, 1) := by decide +kernel
theorem dX12_shining_25 : decode cX12_shining 25 = .ok (.goto 4, 3) := by decide +kernel
theorem dX12_shining_28 : decode cX12_shining 28 = .ok (.iconst 0, 1) := by decide +kernel
theorem dX12_shining_29 : decode cX12_shining 29 = .ok (.ior, 1) := by decide +kernel
theorem dX12_shining_30 : decode cX12_shining 30 = .ok (.istore_n 1, 1) := by decide +kernel
theorem dX12_shining_31 : decode cX12_shining 31 = .ok (.iinc 2 1, 3) := by decide +kernel
theorem dX12_shining_34 : decode cX12_shining 34 = .ok (.goto (-30), 3) := by decide +kernel
theorem dX12_shining_37 : decode cX12_shining 37 = .ok (.iload_n 1, 1) := by decide +kernel
theorem dX12_shining_38 : decode cX12_shining 38 = .ok (.ireturn, 1) := by decide +kernel
theorem dX12_by_0 : decode cX12_by 0 = .ok (.aload_n 0, 1) := by decide +kernel
theorem dX12_by_1 : decode cX12_by 1 = .ok (.aload_n 0, 1) := by decide +kernel
theorem dX12_by_2 : decode cX12_by 2 = .ok (.iload_n 1, 1) := by decide +kernel
theorem dX12_by_3 : decode cX12_by 3 = .ok (.iload_n 2, 1) := by decide +kernel
theorem dX12_by_4 : decode cX12_by 4 = .ok (.invokevirtual 273, 3) := by decide +kernel
theorem dX12_by_7 : decode cX12_by 7 = .ok (.putfield 75, 3) := by decide +kernel
theorem dX12_by_10 : decode cX12_by 10 = .ok (.aload_n 0, 1) := by decide +kernel
theorem dX12_by_11 : decode cX12_by 11 = .ok (.getfield 75, 3) := by decide +kernel
theorem dX12_by_14 : decode cX12_by 14 = .ok (.ifCond .le 5, 3) := by decide +kernel
theorem dX12_by_17 : decode cX12_by 17 = .ok (.iconst 0, 1) := by decide +kernel
theorem dX12_by_18 : decode cX12_by 18 = .ok (.ireturn, 1) := by decide +kernel
theorem dX12_by_19 : decode cX12_by 19 = .ok (.aload_n 0, 1) := by decide +kernel
theorem dX12_by_20 : decode cX12_by 20 = .ok (.iload_n 2, 1) := by decide +kernel
theorem dX12_by_21 : decode cX12_by 21 = .ok (.invokevirtual 256, 3) := by decide +kernel
theorem dX12_by_24 : decode cX12_by 24 = .ok (.aload_n 0, 1) := by decide +kernel
theorem dX12_by_25 : decode cX12_by 25 = .ok (.iload_n 1, 1) := by decide +kernel
theorem dX12_by_26 : decode cX12_by 26 = .ok (.invokevirtual 243, 3) := by decide +kernel
theorem dX12_by_29 : decode cX12_by 29 = .ok (.aload_n 0, 1) := by decide +kernel
theorem dX12_by_30 : decode cX12_by 30 = .ok (.invokevirtual 276, 3) := by decide +kernel
theorem dX12_by_33 : decode cX12_by 33 = .ok (.iand, 1) := by decide +kernel
theorem dX12_by_34 : decode cX12_by 34 = .ok (.ireturn, 1) := by decide +kernel
theorem dX12_dark_0 : decode cX12_dark 0 = .ok (.aload_n 0, 1) := by decide +kernel
theorem dX12_dark_1 : decode cX12_dark 1 = .ok (.iconst 0, 1) := by decide +kernel
theorem dX12_dark_2 : decode cX12_dark 2 = .ok (.putfield 75, 3) := by decide +kernel
theorem dX12_dark_5 : decode cX12_dark 5 = .ok (.iload_n 1, 1) := by decide +kernel
theorem dX12_dark_6 : decode cX12_dark 6 = .ok (.invokestatic 270, 3) := by decide +kernel
theorem dX12_dark_9 : decode cX12_dark 9 = .ok (.ifCond .eq 11, 3) := by decide +kernel
theorem dX12_dark_12 : decode cX12_dark 12 = .ok (.aload_n 0, 1) := by decide +kernel
theorem dX12_dark_13 : decode cX12_dark 13 = .ok (.iload_n 1, 1) := by decide +kernel
theorem dX12_dark_14 : decode cX12_dark 14 = .ok (.invokevirtual 279, 3) := by decide +kernel
theorem dX12_dark_17 : decode cX12_dark 17 = .ok (.goto 8, 3) := by decide +kernel
theorem dX12_dark_20 : decode cX12_dark 20 = .ok (.aload_n 0, 1) := by decide +kernel
theorem dX12_dark_21 : decode cX12_dark 21 = .ok (.iconst 1, 1) := by decide +kernel
theorem dX12_dark_22 : decode cX12_dark 22 = .ok (.invokevirtual 219, 3) := by decide +kernel
theorem dX12_dark_25 : decode cX12_dark 25 = .ok (.ireturn, 1) := by decide +kernel
theorem dX12_judge_0 : decode cX12_judge 0 = .ok (.aload_n 0, 1) := by decide +kernel
theorem dX12_judge_1 : decode cX12_judge 1 = .ok (.iconst 0, 1) := by decide +kernel
theorem dX12_judge_2 : decode cX12_judge 2 = .ok (.putfield 75, 3) := by decide +kernel
theorem dX12_judge_5 : decode cX12_judge 5 = .ok (.iconst 0, 1) := by decide +kernel
theorem dX12_judge_6 : decode cX12_judge 6 = .ok (.istore_n 1, 1) := by decide +kernel
theorem dX12_judge_7 : decode cX12_judge 7 = .ok (.iload_n 1, 1) := by decide +kernel
theorem dX12_judge_8 : decode cX12_judge 8 = .ok (.bipush 24, 2) := by decide +kernel
theorem dX12_judge_10 : decode cX12_judge 10 = .ok (.if_icmp .ge 46, 3) := by decide +kernel
theorem dX12_judge_13 : decode cX12_judge 13 = .ok (.aload_n 0, 1) := by decide +kernel
theorem dX12_judge_14 : decode cX12_judge 14 = .ok (.iload_n 1, 1) := by decide +kernel
theorem dX12_judge_15 : decode cX12_judge 15 = .ok (.invokevirtual 279, 3) := by decide +kernel
theorem dX12_judge_18 : decode cX12_judge 18 = .ok (.istore_n 2, 1) := by decide +kernel
theorem dX12_judge_19 : decode cX12_judge 19 = .ok (.iconst 0, 1) := by decide +kernel
theorem dX12_judge_20 : decode cX12_judge 20 = .ok (.istore_n 3, 1) := by decide +kernel
theorem dX12_judge_21 : decode cX12_judge 21 = .ok (.iload_n 3, 1) := by decide +kernel
theorem dX12_judge_22 : decode cX12_judge 22 = .ok (.aload_n 0, 1) := by decide +kernel
theorem dX12_judge_23 : decode cX12_judge 23 = .ok (.invokevirtual 228, 3) := by decide +kernel
theorem dX12_judge_26 : decode cX12_judge 26 = .ok (.if_icmp .ge 24, 3) := by decide +kernel
theorem dX12_judge_29 : decode cX12_judge 29 = .ok (.iload_n 2, 1) := by decide +kernel
theorem dX12_judge_30 : decode cX12_judge 30 = .ok (.iload_n 3, 1) := by decide +kernel
theorem dX12_judge_31 : decode cX12_judge 31 = .ok (.invokestatic 246, 3) := by decide +kernel
theorem dX12_judge_34 : decode cX12_judge 34 = .ok (.ifCond .eq 10, 3) := by decide +kernel
theorem dX12_judge_37 : decode cX12_judge 37 = .ok (.bipush 100, 2) := by decide +kernel
theorem dX12_judge_39 : decode cX12_judge 39 = .ok (.iload_n 1, 1) := by decide +kernel
theorem dX12_judge_40 : decode cX12_judge 40 = .ok (.imul, 1) := by decide +kernel
theorem dX12_judge_41 : decode cX12_judge 41 = .ok (.iload_n 3, 1) := by decide +kernel
theorem dX12_judge_42 : decode cX12_judge 42 = .ok (.iadd, 1) := by decide +kernel
theorem dX12_judge_43 : decode cX12_judge 43 = .ok (.ireturn, 1) := by decide +kernel
theorem dX12_judge_44 : decode cX12_judge 44 = .ok (.iinc 3 1, 3) := by decide +kernel
theorem dX12_judge_47 : decode cX12_judge 47 = .ok (.goto (-26), 3) := by decide +kernel
theorem dX12_judge_50 : decode cX12_judge 50 = .ok (.iinc 1 1, 3) := by decide +kernel
theorem dX12_judge_53 : decode cX12_judge 53 = .ok (.goto (-46), 3) := by decide +kernel
theorem dX12_judge_56 : decode cX12_judge 56 = .ok (.iconst (-1), 1) := by decide +kernel
theorem dX12_judge_57 : decode cX12_judge 57 = .ok (.ireturn, 1) := by decide +kernel
theorem dX12_outBy_0 : decode cX12_outBy 0 = .ok (.aload_n 0, 1) := by decide +kernel
theorem dX12_outBy_1 : decode cX12_outBy 1 = .ok (.iload_n 2, 1) := by decide +kernel
theorem dX12_outBy_2 : decode cX12_outBy 2 = .ok (.invokevirtual 279, 3) := by decide +kernel
theorem dX12_outBy_5 : decode cX12_outBy 5 = .ok (.istore_n 3, 1) := by decide +kernel
theorem dX12_outBy_6 : decode cX12_outBy 6 = .ok (.aload_n 0, 1) := by decide +kernel
theorem dX12_outBy_7 : decode cX12_outBy 7 = .ok (.getfield 33, 3) := by decide +kernel
theorem dX12_outBy_10 : decode cX12_outBy 10 = .ok (.iload_n 1, 1) := by decide +kernel
theorem dX12_outBy_11 : decode cX12_outBy 11 = .ok (.iconst 0, 1) := by decide +kernel
theorem dX12_outBy_12 : decode cX12_outBy 12 = .ok (.iastore, 1) := by decide +kernel
theorem dX12_outBy_13 : decode cX12_outBy 13 = .ok (.aload_n 0, 1) := by decide +kernel
theorem dX12_outBy_14 : decode cX12_outBy 14 = .ok (.iload_n 2, 1) := by decide +kernel
theorem dX12_outBy_15 : decode cX12_outBy 15 = .ok (.invokevirtual 259, 3) := by decide +kernel
theorem dX12_outBy_18 : decode cX12_outBy 18 = .ok (.iload_n 3, 1) := by decide +kernel
theorem dX12_outBy_19 : decode cX12_outBy 19 = .ok (.iconst (-1), 1) := by decide +kernel
theorem dX12_outBy_20 : decode cX12_outBy 20 = .ok (.ixor, 1) := by decide +kernel
theorem dX12_outBy_21 : decode cX12_outBy 21 = .ok (.iand, 1) := by decide +kernel
theorem dX12_outBy_22 : decode cX12_outBy 22 = .ok (.ireturn, 1) := by decide +kernel
theorem dX12_out_0 : decode cX12_out 0 = .ok (.aload_n 0, 1) := by decide +kernel
theorem dX12_out_1 : decode cX12_out 1 = .ok (.aload_n 0, 1) := by decide +kernel
theorem dX12_out_2 : decode cX12_out 2 = .ok (.iload_n 1, 1) := by decide +kernel
theorem dX12_out_3 : decode cX12_out 3 = .ok (.iload_n 2, 1) := by decide +kernel
theorem dX12_out_4 : decode cX12_out 4 = .ok (.invokevirtual 273, 3) := by decide +kernel
theorem dX12_out_7 : decode cX12_out 7 = .ok (.putfield 75, 3) := by decide +kernel
theorem dX12_out_10 : decode cX12_out 10 = .ok (.aload_n 0, 1) := by decide +kernel
theorem dX12_out_11 : decode cX12_out 11 = .ok (.getfield 75, 3) := by decide +kernel
theorem dX12_out_14 : decode cX12_out 14 = .ok (.ifCond .le 7, 3) := by decide +kernel
theorem dX12_out_17 : decode cX12_out 17 = .ok (.iconst 0, 1) := by decide +kernel
theorem dX12_out_18 : decode cX12_out 18 = .ok (.goto 9, 3) := by decide +kernel
theorem dX12_out_21 : decode cX12_out 21 = .ok (.aload_n 0, 1) := by decide +kernel
theorem dX12_out_22 : decode cX12_out 22 = .ok (.iload_n 1, 1) := by decide +kernel
theorem dX12_out_23 : decode cX12_out 23 = .ok (.iload_n 2, 1) := by decide +kernel
theorem dX12_out_24 : decode cX12_out 24 = .ok (.invokevirtual 282, 3) := by decide +kernel
theorem dX12_out_27 : decode cX12_out 27 = .ok (.ireturn, 1) := by decide +kernel
theorem dX12_spare_0 : decode cX12_spare 0 = .ok (.aload_n 0, 1) := by decide +kernel
theorem dX12_spare_1 : decode cX12_spare 1 = .ok (.iconst 0, 1) := by decide +kernel
theorem dX12_spare_2 : decode cX12_spare 2 = .ok (.putfield 75, 3) := by decide +kernel
theorem dX12_spare_5 : decode cX12_spare 5 = .ok (.iload_n 1, 1) := by decide +kernel
theorem dX12_spare_6 : decode cX12_spare 6 = .ok (.invokestatic 270, 3) := by decide +kernel
theorem dX12_spare_9 : decode cX12_spare 9 = .ok (.ifCond .ne 9, 3) := by decide +kernel
theorem dX12_spare_12 : decode cX12_spare 12 = .ok (.aload_n 0, 1) := by decide +kernel
theorem dX12_spare_13 : decode cX12_spare 13 = .ok (.iconst 1, 1) := by decide +kernel
theorem dX12_spare_14 : decode cX12_spare 14 = .ok (.invokevirtual 219, 3) := by decide +kernel
theorem dX12_spare_17 : decode cX12_spare 17 = .ok (.ireturn, 1) := by decide +kernel
theorem dX12_spare_18 : decode cX12_spare 18 = .ok (.iconst 0, 1) := by decide +kernel
theorem dX12_spare_19 : decode cX12_spare 19 = .ok (.istore_n 2, 1) := by decide +kernel
theorem dX12_spare_20 : decode cX12_spare 20 = .ok (.aload_n 0, 1) := by decide +kernel
theorem dX12_spare_21 : decode cX12_spare 21 = .ok (.iload_n 1, 1) := by decide +kernel
theorem dX12_spare_22 : decode cX12_spare 22 = .ok (.invokevirtual 256, 3) := by decide +kernel
theorem dX12_spare_25 : decode cX12_spare 25 = .ok (.aload_n 0, 1) := by decide +kernel
theorem dX12_spare_26 : decode cX12_spare 26 = .ok (.invokevirtual 276, 3) := by decide +kernel
theorem dX12_spare_29 : decode cX12_spare 29 = .ok (.istore_n 3, 1) := by decide +kernel
theorem dX12_spare_30 : decode cX12_spare 30 = .ok (.iconst 0, 1) := by decide +kernel
theorem dX12_spare_31 : decode cX12_spare 31 = .ok (.istore 4, 2) := by decide +kernel
theorem dX12_spare_33 : decode cX12_spare 33 = .ok (.iload 4, 2) := by decide +kernel
theorem dX12_spare_35 : decode cX12_spare 35 = .ok (.aload_n 0, 1) := by decide +kernel
theorem dX12_spare_36 : decode cX12_spare 36 = .ok (.invokevirtual 228, 3) := by decide +kernel
theorem dX12_spare_39 : decode cX12_spare 39 = .ok (.if_icmp .ge 39, 3) := by decide +kernel
theorem dX12_spare_42 : decode cX12_spare 42 = .ok (.iload_n 2, 1) := by decide +kernel
theorem dX12_spare_43 : decode cX12_spare 43 = .ok (.iload_n 3, 1) := by decide +kernel
theorem dX12_spare_44 : decode cX12_spare 44 = .ok (.iload 4, 2) := by decide +kernel
theorem dX12_spare_46 : decode cX12_spare 46 = .ok (.invokestatic 246, 3) := by decide +kernel
theorem dX12_spare_49 : decode cX12_spare 49 = .ok (.ifCond .eq 20, 3) := by decide +kernel
theorem dX12_spare_52 : decode cX12_spare 52 = .ok (.aload_n 0, 1) := by decide +kernel
theorem dX12_spare_53 : decode cX12_spare 53 = .ok (.iload 4, 2) := by decide +kernel
theorem dX12_spare_55 : decode cX12_spare 55 = .ok (.iload_n 1, 1) := by decide +kernel
theorem dX12_spare_56 : decode cX12_spare 56 = .ok (.invokevirtual 282, 3) := by decide +kernel
theorem dX12_spare_59 : decode cX12_spare 59 = .ok (.ifCond .ne 10, 3) := by decide +kernel
theorem dX12_spare_62 : decode cX12_spare 62 = .ok (.iconst 1, 1) := by decide +kernel
theorem dX12_spare_63 : decode cX12_spare 63 = .ok (.iload 4, 2) := by decide +kernel
theorem dX12_spare_65 : decode cX12_spare 65 = .ok (.ishl, 1) := by decide +kernel
theorem dX12_spare_66 : decode cX12_spare 66 = .ok (.goto 4, 3) := by decide +kernel
theorem dX12_spare_69 : decode cX12_spare 69 = .ok (.iconst 0, 1) := by decide +kernel
theorem dX12_spare_70 : decode cX12_spare 70 = .ok (.ior, 1) := by decide +kernel
theorem dX12_spare_71 : decode cX12_spare 71 = .ok (.istore_n 2, 1) := by decide +kernel
theorem dX12_spare_72 : decode cX12_spare 72 = .ok (.iinc 4 1, 3) := by decide +kernel
theorem dX12_spare_75 : decode cX12_spare 75 = .ok (.goto (-42), 3) := by decide +kernel
theorem dX12_spare_78 : decode cX12_spare 78 = .ok (.iload_n 2, 1) := by decide +kernel
theorem dX12_spare_79 : decode cX12_spare 79 = .ok (.ireturn, 1) := by decide +kernel
theorem dX12_angry_0 : decode cX12_angry 0 = .ok (.aload_n 0, 1) := by decide +kernel
theorem dX12_angry_1 : decode cX12_angry 1 = .ok (.iconst 0, 1) := by decide +kernel
theorem dX12_angry_2 : decode cX12_angry 2 = .ok (.putfield 75, 3) := by decide +kernel
theorem dX12_angry_5 : decode cX12_angry 5 = .ok (.iload_n 1, 1) := by decide +kernel
theorem dX12_angry_6 : decode cX12_angry 6 = .ok (.invokestatic 270, 3) := by decide +kernel
theorem dX12_angry_9 : decode cX12_angry 9 = .ok (.ifCond .ne 9, 3) := by decide +kernel
theorem dX12_angry_12 : decode cX12_angry 12 = .ok (.aload_n 0, 1) := by decide +kernel
theorem dX12_angry_13 : decode cX12_angry 13 = .ok (.iconst 1, 1) := by decide +kernel
theorem dX12_angry_14 : decode cX12_angry 14 = .ok (.invokevirtual 219, 3) := by decide +kernel
theorem dX12_angry_17 : decode cX12_angry 17 = .ok (.ireturn, 1) := by decide +kernel
theorem dX12_angry_18 : decode cX12_angry 18 = .ok (.aload_n 0, 1) := by decide +kernel
theorem dX12_angry_19 : decode cX12_angry 19 = .ok (.iload_n 1, 1) := by decide +kernel
theorem dX12_angry_20 : decode cX12_angry 20 = .ok (.invokevirtual 256, 3) := by decide +kernel
theorem dX12_angry_23 : decode cX12_angry 23 = .ok (.iconst 0, 1) := by decide +kernel
theorem dX12_angry_24 : decode cX12_angry 24 = .ok (.istore_n 2, 1) := by decide +kernel
theorem dX12_angry_25 : decode cX12_angry 25 = .ok (.iconst 0, 1) := by decide +kernel
theorem dX12_angry_26 : decode cX12_angry 26 = .ok (.istore_n 3, 1) := by decide +kernel
theorem dX12_angry_27 : decode cX12_angry 27 = .ok (.iload_n 3, 1) := by decide +kernel
theorem dX12_angry_28 : decode cX12_angry 28 = .ok (.aload_n 0, 1) := by decide +kernel
theorem dX12_angry_29 : decode cX12_angry 29 = .ok (.invokevirtual 228, 3) := by decide +kernel
theorem dX12_angry_32 : decode cX12_angry 32 = .ok (.if_icmp .ge 43, 3) := by decide +kernel
theorem dX12_angry_35 : decode cX12_angry 35 = .ok (.iload_n 2, 1) := by decide +kernel
theorem dX12_angry_36 : decode cX12_angry 36 = .ok (.aload_n 0, 1) := by decide +kernel
theorem dX12_angry_37 : decode cX12_angry 37 = .ok (.iload_n 3, 1) := by decide +kernel
theorem dX12_angry_38 : decode cX12_angry 38 = .ok (.invokevirtual 243, 3) := by decide +kernel
theorem dX12_angry_41 : decode cX12_angry 41 = .ok (.aload_n 0, 1) := by decide +kernel
theorem dX12_angry_42 : decode cX12_angry 42 = .ok (.invokevirtual 276, 3) := by decide +kernel
theorem dX12_angry_45 : decode cX12_angry 45 = .ok (.iand, 1) := by decide +kernel
theorem dX12_angry_46 : decode cX12_angry 46 = .ok (.aload_n 0, 1) := by decide +kernel
theorem dX12_angry_47 : decode cX12_angry 47 = .ok (.getfield 9, 3) := by decide +kernel
theorem dX12_angry_50 : decode cX12_angry 50 = .ok (.sipush 432, 3) := by decide +kernel
theorem dX12_angry_53 : decode cX12_angry 53 = .ok (.iload_n 3, 1) := by decide +kernel
theorem dX12_angry_54 : decode cX12_angry 54 = .ok (.iadd, 1) := by decide +kernel
theorem dX12_angry_55 : decode cX12_angry 55 = .ok (.iaload, 1) := by decide +kernel
theorem dX12_angry_56 : decode cX12_angry 56 = .ok (.iand, 1) := by decide +kernel
theorem dX12_angry_57 : decode cX12_angry 57 = .ok (.ifCond .eq 9, 3) := by decide +kernel
theorem dX12_angry_60 : decode cX12_angry 60 = .ok (.iconst 1, 1) := by decide +kernel
theorem dX12_angry_61 : decode cX12_angry 61 = .ok (.iload_n 3, 1) := by decide +kernel
theorem dX12_angry_62 : decode cX12_angry 62 = .ok (.ishl, 1) := by decide +kernel
theorem dX12_angry_63 : decode cX12_angry 63 = .ok (.goto 4, 3) := by decide +kernel
theorem dX12_angry_66 : decode cX12_angry 66 = .ok (.iconst 0, 1) := by decide +kernel
theorem dX12_angry_67 : decode cX12_angry 67 = .ok (.ior, 1) := by decide +kernel
theorem dX12_angry_68 : decode cX12_angry 68 = .ok (.istore_n 2, 1) := by decide +kernel
theorem dX12_angry_69 : decode cX12_angry 69 = .ok (.iinc 3 1, 3) := by decide +kernel
theorem dX12_angry_72 : decode cX12_angry 72 = .ok (.goto (-45), 3) := by decide +kernel
theorem dX12_angry_75 : decode cX12_angry 75 = .ok (.iload_n 2, 1) := by decide +kernel
theorem dX12_angry_76 : decode cX12_angry 76 = .ok (.ireturn, 1) := by decide +kernel
theorem dX12_oil_0 : decode cX12_oil 0 = .ok (.aload_n 0, 1) := by decide +kernel
theorem dX12_oil_1 : decode cX12_oil 1 = .ok (.iconst 0, 1) := by decide +kernel
theorem dX12_oil_2 : decode cX12_oil 2 = .ok (.putfield 75, 3) := by decide +kernel
theorem dX12_oil_5 : decode cX12_oil 5 = .ok (.iconst 0, 1) := by decide +kernel
theorem dX12_oil_6 : decode cX12_oil 6 = .ok (.istore_n 1, 1) := by decide +kernel
theorem dX12_oil_7 : decode cX12_oil 7 = .ok (.iconst 0, 1) := by decide +kernel
theorem dX12_oil_8 : decode cX12_oil 8 = .ok (.istore_n 2, 1) := by decide +kernel
theorem dX12_oil_9 : decode cX12_oil 9 = .ok (.iload_n 2, 1) := by decide +kernel
theorem dX12_oil_10 : decode cX12_oil 10 = .ok (.aload_n 0, 1) := by decide +kernel
theorem dX12_oil_11 : decode cX12_oil 11 = .ok (.invokevirtual 228, 3) := by decide +kernel
theorem dX12_oil_14 : decode cX12_oil 14 = .ok (.if_icmp .ge 71, 3) := by decide +kernel
theorem dX12_oil_17 : decode cX12_oil 17 = .ok (.aload_n 0, 1) := by decide +kernel
theorem dX12_oil_18 : decode cX12_oil 18 = .ok (.getfield 9, 3) := by decide +kernel
theorem dX12_oil_21 : decode cX12_oil 21 = .ok (.sipush 448, 3) := by decide +kernel
theorem dX12_oil_24 : decode cX12_oil 24 = .ok (.iconst 2, 1) := by decide +kernel
theorem dX12_oil_25 : decode cX12_oil 25 = .ok (.iload_n 2, 1) := by decide +kernel
theorem dX12_oil_26 : decode cX12_oil 26 = .ok (.imul, 1) := by decide +kernel
theorem dX12_oil_27 : decode cX12_oil 27 = .ok (.iadd, 1) := by decide +kernel
theorem dX12_oil_28 : decode cX12_oil 28 = .ok (.iaload, 1) := by decide +kernel
theorem dX12_oil_29 : decode cX12_oil 29 = .ok (.iconst (-1), 1) := by decide +kernel
theorem dX12_oil_30 : decode cX12_oil 30 = .ok (.if_icmp .eq 49, 3) := by decide +kernel
theorem dX12_oil_33 : decode cX12_oil 33 = .ok (.iload_n 1, 1) := by decide +kernel
theorem dX12_oil_34 : decode cX12_oil 34 = .ok (.aload_n 0, 1) := by decide +kernel
theorem dX12_oil_35 : decode cX12_oil 35 = .ok (.getfield 9, 3) := by decide +kernel
theorem dX12_oil_38 : decode cX12_oil 38 = .ok (.sipush 248, 3) := by decide +kernel
theorem dX12_oil_41 : decode cX12_oil 41 = .ok (.iconst 2, 1) := by decide +kernel
theorem dX12_oil_42 : decode cX12_oil 42 = .ok (.aload_n 0, 1) := by decide +kernel
theorem dX12_oil_43 : decode cX12_oil 43 = .ok (.getfield 9, 3) := by decide +kernel
theorem dX12_oil_46 : decode cX12_oil 46 = .ok (.sipush 448, 3) := by decide +kernel
theorem dX12_oil_49 : decode cX12_oil 49 = .ok (.iconst 2, 1) := by decide +kernel
theorem dX12_oil_50 : decode cX12_oil 50 = .ok (.iload_n 2, 1) := by decide +kernel
theorem dX12_oil_51 : decode cX12_oil 51 = .ok (.imul, 1) := by decide +kernel
theorem dX12_oil_52 : decode cX12_oil 52 = .ok (.iadd, 1) := by decide +kernel
theorem dX12_oil_53 : decode cX12_oil 53 = .ok (.iaload, 1) := by decide +kernel
theorem dX12_oil_54 : decode cX12_oil 54 = .ok (.imul, 1) := by decide +kernel
theorem dX12_oil_55 : decode cX12_oil 55 = .ok (.iadd, 1) := by decide +kernel
theorem dX12_oil_56 : decode cX12_oil 56 = .ok (.iconst 1, 1) := by decide +kernel
theorem dX12_oil_57 : decode cX12_oil 57 = .ok (.iadd, 1) := by decide +kernel
theorem dX12_oil_58 : decode cX12_oil 58 = .ok (.iaload, 1) := by decide +kernel
theorem dX12_oil_59 : decode cX12_oil 59 = .ok (.aload_n 0, 1) := by decide +kernel
theorem dX12_oil_60 : decode cX12_oil 60 = .ok (.getfield 9, 3) := by decide +kernel
theorem dX12_oil_63 : decode cX12_oil 63 = .ok (.sipush 448, 3) := by decide +kernel
theorem dX12_oil_66 : decode cX12_oil 66 = .ok (.iconst 2, 1) := by decide +kernel
theorem dX12_oil_67 : decode cX12_oil 67 = .ok (.iload_n 2, 1) := by decide +kernel
theorem dX12_oil_68 : decode cX12_oil 68 = .ok (.imul, 1) := by decide +kernel
theorem dX12_oil_69 : decode cX12_oil 69 = .ok (.iadd, 1) := by decide +kernel
theorem dX12_oil_70 : decode cX12_oil 70 = .ok (.iconst 1, 1) := by decide +kernel
theorem dX12_oil_71 : decode cX12_oil 71 = .ok (.iadd, 1) := by decide +kernel
theorem dX12_oil_72 : decode cX12_oil 72 = .ok (.iaload, 1) := by decide +kernel
theorem dX12_oil_73 : decode cX12_oil 73 = .ok (.invokestatic 285, 3) := by decide +kernel
theorem dX12_oil_76 : decode cX12_oil 76 = .ok (.imul, 1) := by decide +kernel
theorem dX12_oil_77 : decode cX12_oil 77 = .ok (.iadd, 1) := by decide +kernel
theorem dX12_oil_78 : decode cX12_oil 78 = .ok (.istore_n 1, 1) := by decide +kernel
theorem dX12_oil_79 : decode cX12_oil 79 = .ok (.iinc 2 1, 3) := by decide +kernel
theorem dX12_oil_82 : decode cX12_oil 82 = .ok (.goto (-73), 3) := by decide +kernel
theorem dX12_oil_85 : decode cX12_oil 85 = .ok (.iload_n 1, 1) := by decide +kernel
theorem dX12_oil_86 : decode cX12_oil 86 = .ok (.ireturn, 1) := by decide +kernel
theorem dX12_isLit_0 : decode cX12_isLit 0 = .ok (.iconst 0, 1) := by decide +kernel
theorem dX12_isLit_1 : decode cX12_isLit 1 = .ok (.istore_n 3, 1) := by decide +kernel
theorem dX12_isLit_2 : decode cX12_isLit 2 = .ok (.iload_n 3, 1) := by decide +kernel
theorem dX12_isLit_3 : decode cX12_isLit 3 = .ok (.aload_n 0, 1) := by decide +kernel
theorem dX12_isLit_4 : decode cX12_isLit 4 = .ok (.invokevirtual 228, 3) := by decide +kernel
theorem dX12_isLit_7 : decode cX12_isLit 7 = .ok (.if_icmp .ge 30, 3) := by decide +kernel
theorem dX12_isLit_10 : decode cX12_isLit 10 = .ok (.iload_n 2, 1) := by decide +kernel
theorem dX12_isLit_11 : decode cX12_isLit 11 = .ok (.iload_n 3, 1) := by decide +kernel
theorem dX12_isLit_12 : decode cX12_isLit 12 = .ok (.invokestatic 246, 3) := by decide +kernel
theorem dX12_isLit_15 : decode cX12_isLit 15 = .ok (.ifCond .eq 16, 3) := by decide +kernel
theorem dX12_isLit_18 : decode cX12_isLit 18 = .ok (.aload_n 0, 1) := by decide +kernel
theorem dX12_isLit_19 : decode cX12_isLit 19 = .ok (.getfield 30, 3) := by decide +kernel
theorem dX12_isLit_22 : decode cX12_isLit 22 = .ok (.iload_n 3, 1) := by decide +kernel
theorem dX12_isLit_23 : decode cX12_isLit 23 = .ok (.iaload, 1) := by decide +kernel
theorem dX12_isLit_24 : decode cX12_isLit 24 = .ok (.iload_n 1, 1) := by decide +kernel
theorem dX12_isLit_25 : decode cX12_isLit 25 = .ok (.iand, 1) := by decide +kernel
theorem dX12_isLit_26 : decode cX12_isLit 26 = .ok (.ifCond .ne 5, 3) := by decide +kernel
theorem dX12_isLit_29 : decode cX12_isLit 29 = .ok (.iconst 0, 1) := by decide +kernel
theorem dX12_isLit_30 : decode cX12_isLit 30 = .ok (.ireturn, 1) := by decide +kernel
theorem dX12_isLit_31 : decode cX12_isLit 31 = .ok (.iinc 3 1, 3) := by decide +kernel
theorem dX12_isLit_34 : decode cX12_isLit 34 = .ok (.goto (-32), 3) := by decide +kernel
theorem dX12_isLit_37 : decode cX12_isLit 37 = .ok (.iconst 1, 1) := by decide +kernel
theorem dX12_isLit_38 : decode cX12_isLit 38 = .ok (.ireturn, 1) := by decide +kernel
theorem dX12_lights_0 : decode cX12_lights 0 = .ok (.aload_n 0, 1) := by decide +kernel
theorem dX12_lights_1 : decode cX12_lights 1 = .ok (.aload_n 0, 1) := by decide +kernel
theorem dX12_lights_2 : decode cX12_lights 2 = .ok (.iload_n 1, 1) := by decide +kernel
theorem dX12_lights_3 : decode cX12_lights 3 = .ok (.invokevirtual 288, 3) := by decide +kernel
theorem dX12_lights_6 : decode cX12_lights 6 = .ok (.ifCond .eq 15, 3) := by decide +kernel
theorem dX12_lights_9 : decode cX12_lights 9 = .ok (.aload_n 0, 1) := by decide +kernel
theorem dX12_lights_10 : decode cX12_lights 10 = .ok (.iload_n 2, 1) := by decide +kernel
theorem dX12_lights_11 : decode cX12_lights 11 = .ok (.invokevirtual 288, 3) := by decide +kernel
theorem dX12_lights_14 : decode cX12_lights 14 = .ok (.ifCond .eq 7, 3) := by decide +kernel
theorem dX12_lights_17 : decode cX12_lights 17 = .ok (.iconst 0, 1) := by decide +kernel
theorem dX12_lights_18 : decode cX12_lights 18 = .ok (.goto 4, 3) := by decide +kernel
theorem dX12_lights_21 : decode cX12_lights 21 = .ok (.iconst 1, 1) := by decide +kernel
theorem dX12_lights_22 : decode cX12_lights 22 = .ok (.putfield 75, 3) := by decide +kernel
theorem dX12_lights_25 : decode cX12_lights 25 = .ok (.aload_n 0, 1) := by decide +kernel
theorem dX12_lights_26 : decode cX12_lights 26 = .ok (.getfield 75, 3) := by decide +kernel
theorem dX12_lights_29 : decode cX12_lights 29 = .ok (.ifCond .le 5, 3) := by decide +kernel
theorem dX12_lights_32 : decode cX12_lights 32 = .ok (.iconst 0, 1) := by decide +kernel
theorem dX12_lights_33 : decode cX12_lights 33 = .ok (.ireturn, 1) := by decide +kernel
theorem dX12_lights_34 : decode cX12_lights 34 = .ok (.aload_n 0, 1) := by decide +kernel
theorem dX12_lights_35 : decode cX12_lights 35 = .ok (.invokevirtual 291, 3) := by decide +kernel
theorem dX12_lights_38 : decode cX12_lights 38 = .ok (.aload_n 0, 1) := by decide +kernel
theorem dX12_lights_39 : decode cX12_lights 39 = .ok (.iload_n 1, 1) := by decide +kernel
theorem dX12_lights_40 : decode cX12_lights 40 = .ok (.iload_n 2, 1) := by decide +kernel
theorem dX12_lights_41 : decode cX12_lights 41 = .ok (.invokevirtual 294, 3) := by decide +kernel
theorem dX12_lights_44 : decode cX12_lights 44 = .ok (.ireturn, 1) := by decide +kernel
theorem dX12_isTwice_0 : decode cX12_isTwice 0 = .ok (.iconst 0, 1) := by decide +kernel
theorem dX12_isTwice_1 : decode cX12_isTwice 1 = .ok (.istore_n 2, 1) := by decide +kernel
theorem dX12_isTwice_2 : decode cX12_isTwice 2 = .ok (.iload_n 2, 1) := by decide +kernel
theorem dX12_isTwice_3 : decode cX12_isTwice 3 = .ok (.aload_n 0, 1) := by decide +kernel
theorem dX12_isTwice_4 : decode cX12_isTwice 4 = .ok (.invokevirtual 228, 3) := by decide +kernel
theorem dX12_isTwice_7 : decode cX12_isTwice 7 = .ok (.if_icmp .ge 26, 3) := by decide +kernel
theorem dX12_isTwice_10 : decode cX12_isTwice 10 = .ok (.aload_n 0, 1) := by decide +kernel
theorem dX12_isTwice_11 : decode cX12_isTwice 11 = .ok (.getfield 30, 3) := by decide +kernel
theorem dX12_isTwice_14 : decode cX12_isTwice 14 = .ok (.iload_n 2, 1) := by decide +kernel
theorem dX12_isTwice_15 : decode cX12_isTwice 15 = .ok (.iaload, 1) := by decide +kernel
theorem dX12_isTwice_16 : decode cX12_isTwice 16 = .ok (.iload_n 1, 1) := by decide +kernel
theorem dX12_isTwice_17 : decode cX12_isTwice 17 = .ok (.iand, 1) := by decide +kernel
theorem dX12_isTwice_18 : decode cX12_isTwice 18 = .ok (.invokestatic 285, 3) := by decide +kernel
theorem dX12_isTwice_21 : decode cX12_isTwice 21 = .ok (.iconst 2, 1) := by decide +kernel
theorem dX12_isTwice_22 : decode cX12_isTwice 22 = .ok (.if_icmp .ge 5, 3) := by decide +kernel
theorem dX12_isTwice_25 : decode cX12_isTwice 25 = .ok (.iconst 0, 1) := by decide +kernel
theorem dX12_isTwice_26 : decode cX12_isTwice 26 = .ok (.ireturn, 1) := by decide +kernel
theorem dX12_isTwice_27 : decode cX12_isTwice 27 = .ok (.iinc 2 1, 3) := by decide +kernel
theorem dX12_isTwice_30 : decode cX12_isTwice 30 = .ok (.goto (-28), 3) := by decide +kernel
theorem dX12_isTwice_33 : decode cX12_isTwice 33 = .ok (.iconst 1, 1) := by decide +kernel
theorem dX12_isTwice_34 : decode cX12_isTwice 34 = .ok (.ireturn, 1) := by decide +kernel
theorem dX12_isApart_0 : decode cX12_isApart 0 = .ok (.iconst 0, 1) := by decide +kernel
theorem dX12_isApart_1 : decode cX12_isApart 1 = .ok (.istore_n 2, 1) := by decide +kernel
theorem dX12_isApart_2 : decode cX12_isApart 2 = .ok (.iload_n 2, 1) := by decide +kernel
theorem dX12_isApart_3 : decode cX12_isApart 3 = .ok (.aload_n 0, 1) := by decide +kernel
theorem dX12_isApart_4 : decode cX12_isApart 4 = .ok (.invokevirtual 228, 3) := by decide +kernel
theorem dX12_isApart_7 : decode cX12_isApart 7 = .ok (.if_icmp .ge 33, 3) := by decide +kernel
theorem dX12_isApart_10 : decode cX12_isApart 10 = .ok (.aload_n 0, 1) := by decide +kernel
theorem dX12_isApart_11 : decode cX12_isApart 11 = .ok (.getfield 30, 3) := by decide +kernel
theorem dX12_isApart_14 : decode cX12_isApart 14 = .ok (.iload_n 2, 1) := by decide +kernel
theorem dX12_isApart_15 : decode cX12_isApart 15 = .ok (.iaload, 1) := by decide +kernel
theorem dX12_isApart_16 : decode cX12_isApart 16 = .ok (.iload_n 1, 1) := by decide +kernel
theorem dX12_isApart_17 : decode cX12_isApart 17 = .ok (.iand, 1) := by decide +kernel
theorem dX12_isApart_18 : decode cX12_isApart 18 = .ok (.aload_n 0, 1) := by decide +kernel
theorem dX12_isApart_19 : decode cX12_isApart 19 = .ok (.getfield 9, 3) := by decide +kernel
theorem dX12_isApart_22 : decode cX12_isApart 22 = .ok (.sipush 432, 3) := by decide +kernel
theorem dX12_isApart_25 : decode cX12_isApart 25 = .ok (.iload_n 2, 1) := by decide +kernel
theorem dX12_isApart_26 : decode cX12_isApart 26 = .ok (.iadd, 1) := by decide +kernel
theorem dX12_isApart_27 : decode cX12_isApart 27 = .ok (.iaload, 1) := by decide +kernel
theorem dX12_isApart_28 : decode cX12_isApart 28 = .ok (.iand, 1) := by decide +kernel
theorem dX12_isApart_29 : decode cX12_isApart 29 = .ok (.ifCond .eq 5, 3) := by decide +kernel
theorem dX12_isApart_32 : decode cX12_isApart 32 = .ok (.iconst 0, 1) := by decide +kernel
theorem dX12_isApart_33 : decode cX12_isApart 33 = .ok (.ireturn, 1) := by decide +kernel
theorem dX12_isApart_34 : decode cX12_isApart 34 = .ok (.iinc 2 1, 3) := by decide +kernel
theorem dX12_isApart_37 : decode cX12_isApart 37 = .ok (.goto (-35), 3) := by decide +kernel
theorem dX12_isApart_40 : decode cX12_isApart 40 = .ok (.aload_n 0, 1) := by decide +kernel
theorem dX12_isApart_41 : decode cX12_isApart 41 = .ok (.iload_n 1, 1) := by decide +kernel
theorem dX12_isApart_42 : decode cX12_isApart 42 = .ok (.aload_n 0, 1) := by decide +kernel
theorem dX12_isApart_43 : decode cX12_isApart 43 = .ok (.invokevirtual 230, 3) := by decide +kernel
theorem dX12_isApart_46 : decode cX12_isApart 46 = .ok (.invokevirtual 294, 3) := by decide +kernel
theorem dX12_isApart_49 : decode cX12_isApart 49 = .ok (.ireturn, 1) := by decide +kernel
theorem dX12_isLone_0 : decode cX12_isLone 0 = .ok (.iconst 0, 1) := by decide +kernel
theorem dX12_isLone_1 : decode cX12_isLone 1 = .ok (.istore_n 2, 1) := by decide +kernel
theorem dX12_isLone_2 : decode cX12_isLone 2 = .ok (.iconst 0, 1) := by decide +kernel
theorem dX12_isLone_3 : decode cX12_isLone 3 = .ok (.istore_n 3, 1) := by decide +kernel
theorem dX12_isLone_4 : decode cX12_isLone 4 = .ok (.iload_n 3, 1) := by decide +kernel
theorem dX12_isLone_5 : decode cX12_isLone 5 = .ok (.aload_n 0, 1) := by decide +kernel
theorem dX12_isLone_6 : decode cX12_isLone 6 = .ok (.invokevirtual 228, 3) := by decide +kernel
theorem dX12_isLone_9 : decode cX12_isLone 9 = .ok (.if_icmp .ge 42, 3) := by decide +kernel
theorem dX12_isLone_12 : decode cX12_isLone 12 = .ok (.iload_n 1, 1) := by decide +kernel
theorem dX12_isLone_13 : decode cX12_isLone 13 = .ok (.iload_n 3, 1) := by decide +kernel
theorem dX12_isLone_14 : decode cX12_isLone 14 = .ok (.invokestatic 246, 3) := by decide +kernel
theorem dX12_isLone_17 : decode cX12_isLone 17 = .ok (.ifCond .ne 6, 3) := by decide +kernel
theorem dX12_isLone_20 : decode cX12_isLone 20 = .ok (.goto 25, 3) := by decide +kernel
theorem dX12_isLone_23 : decode cX12_isLone 23 = .ok (.iload_n 2, 1) := by decide +kernel
theorem dX12_isLone_24 : decode cX12_isLone 24 = .ok (.aload_n 0, 1) := by decide +kernel
theorem dX12_isLone_25 : decode cX12_isLone 25 = .ok (.getfield 30, 3) := by decide +kernel
theorem dX12_isLone_28 : decode cX12_isLone 28 = .ok (.iload_n 3, 1) := by decide +kernel
theorem dX12_isLone_29 : decode cX12_isLone 29 = .ok (.iaload, 1) := by decide +kernel
theorem dX12_isLone_30 : decode cX12_isLone 30 = .ok (.iand, 1) := by decide +kernel
theorem dX12_isLone_31 : decode cX12_isLone 31 = .ok (.ifCond .eq 5, 3) := by decide +kernel
theorem dX12_isLone_34 : decode cX12_isLone 34 = .ok (.iconst 0, 1) := by decide +kernel
theorem dX12_isLone_35 : decode cX12_isLone 35 = .ok (.ireturn, 1) := by decide +kernel
theorem dX12_isLone_36 : decode cX12_isLone 36 = .ok (.iload_n 2, 1) := by decide +kernel
theorem dX12_isLone_37 : decode cX12_isLone 37 = .ok (.aload_n 0, 1) := by decide +kernel
theorem dX12_isLone_38 : decode cX12_isLone 38 = .ok (.getfield 30, 3) := by decide +kernel
theorem dX12_isLone_41 : decode cX12_isLone 41 = .ok (.iload_n 3, 1) := by decide +kernel
theorem dX12_isLone_42 : decode cX12_isLone 42 = .ok (.iaload, 1) := by decide +kernel
theorem dX12_isLone_43 : decode cX12_isLone 43 = .ok (.ior, 1) := by decide +kernel
theorem dX12_isLone_44 : decode cX12_isLone 44 = .ok (.istore_n 2, 1) := by decide +kernel
theorem dX12_isLone_45 : decode cX12_isLone 45 = .ok (.iinc 3 1, 3) := by decide +kernel
theorem dX12_isLone_48 : decode cX12_isLone 48 = .ok (.goto (-44), 3) := by decide +kernel
theorem dX12_isLone_51 : decode cX12_isLone 51 = .ok (.iconst 1, 1) := by decide +kernel
theorem dX12_isLone_52 : decode cX12_isLone 52 = .ok (.ireturn, 1) := by decide +kernel
theorem dX12_isSo_0 : decode cX12_isSo 0 = .ok (.iload_n 1, 1) := by decide +kernel
theorem dX12_isSo_1 : decode cX12_isSo 1 = .ok (.ifCond .ne 15, 3) := by decide +kernel
theorem dX12_isSo_4 : decode cX12_isSo 4 = .ok (.aload_n 0, 1) := by decide +kernel
theorem dX12_isSo_5 : decode cX12_isSo 5 = .ok (.iload_n 2, 1) := by decide +kernel
theorem dX12_isSo_6 : decode cX12_isSo 6 = .ok (.aload_n 0, 1) := by decide +kernel
theorem dX12_isSo_7 : decode cX12_isSo 7 = .ok (.invokevirtual 230, 3) := by decide +kernel
theorem dX12_isSo_10 : decode cX12_isSo 10 = .ok (.invokevirtual 294, 3) := by decide +kernel
theorem dX12_isSo_13 : decode cX12_isSo 13 = .ok (.goto 34, 3) := by decide +kernel
theorem dX12_isSo_16 : decode cX12_isSo 16 = .ok (.iload_n 1, 1) := by decide +kernel
theorem dX12_isSo_17 : decode cX12_isSo 17 = .ok (.iconst 1, 1) := by decide +kernel
theorem dX12_isSo_18 : decode cX12_isSo 18 = .ok (.if_icmp .ne 11, 3) := by decide +kernel
theorem dX12_isSo_21 : decode cX12_isSo 21 = .ok (.aload_n 0, 1) := by decide +kernel
theorem dX12_isSo_22 : decode cX12_isSo 22 = .ok (.iload_n 2, 1) := by decide +kernel
theorem dX12_isSo_23 : decode cX12_isSo 23 = .ok (.invokevirtual 297, 3) := by decide +kernel
theorem dX12_isSo_26 : decode cX12_isSo 26 = .ok (.goto 21, 3) := by decide +kernel
theorem dX12_isSo_29 : decode cX12_isSo 29 = .ok (.iload_n 1, 1) := by decide +kernel
theorem dX12_isSo_30 : decode cX12_isSo 30 = .ok (.iconst 2, 1) := by decide +kernel
theorem dX12_isSo_31 : decode cX12_isSo 31 = .ok (.if_icmp .ne 11, 3) := by decide +kernel
theorem dX12_isSo_34 : decode cX12_isSo 34 = .ok (.aload_n 0, 1) := by decide +kernel
theorem dX12_isSo_35 : decode cX12_isSo 35 = .ok (.iload_n 2, 1) := by decide +kernel
theorem dX12_isSo_36 : decode cX12_isSo 36 = .ok (.invokevirtual 300, 3) := by decide +kernel
theorem dX12_isSo_39 : decode cX12_isSo 39 = .ok (.goto 8, 3) := by decide +kernel
theorem dX12_isSo_42 : decode cX12_isSo 42 = .ok (.aload_n 0, 1) := by decide +kernel
theorem dX12_isSo_43 : decode cX12_isSo 43 = .ok (.iload_n 2, 1) := by decide +kernel
theorem dX12_isSo_44 : decode cX12_isSo 44 = .ok (.invokevirtual 303, 3) := by decide +kernel
theorem dX12_isSo_47 : decode cX12_isSo 47 = .ok (.ireturn, 1) := by decide +kernel
theorem dX12_bestOf_0 : decode cX12_bestOf 0 = .ok (.iconst (-1), 1) := by decide +kernel
theorem dX12_bestOf_1 : decode cX12_bestOf 1 = .ok (.istore_n 2, 1) := by decide +kernel
theorem dX12_bestOf_2 : decode cX12_bestOf 2 = .ok (.iconst 0, 1) := by decide +kernel
theorem dX12_bestOf_3 : decode cX12_bestOf 3 = .ok (.istore_n 3, 1) := by decide +kernel
theorem dX12_bestOf_4 : decode cX12_bestOf 4 = .ok (.iload_n 3, 1) := by decide +kernel
theorem dX12_bestOf_5 : decode cX12_bestOf 5 = .ok (.aload_n 0, 1) := by decide +kernel
theorem dX12_bestOf_6 : decode cX12_bestOf 6 = .ok (.invokevirtual 230, 3) := by decide +kernel
theorem dX12_bestOf_9 : decode cX12_bestOf 9 = .ok (.if_icmp .gt 58, 3) := by decide +kernel
theorem dX12_bestOf_12 : decode cX12_bestOf 12 = .ok (.iload_n 2, 1) := by decide +kernel
theorem dX12_bestOf_13 : decode cX12_bestOf 13 = .ok (.iconst (-1), 1) := by decide +kernel
theorem dX12_bestOf_14 : decode cX12_bestOf 14 = .ok (.if_icmp .eq 36, 3) := by decide +kernel
theorem dX12_bestOf_17 : decode cX12_bestOf 17 = .ok (.iload_n 1, 1) := by decide +kernel
theorem dX12_bestOf_18 : decode cX12_bestOf 18 = .ok (.iconst 3, 1) := by decide +kernel
theorem dX12_bestOf_19 : decode cX12_bestOf 19 = .ok (.if_icmp .ne 17, 3) := by decide +kernel
theorem dX12_bestOf_22 : decode cX12_bestOf 22 = .ok (.iload_n 3, 1) := by decide +kernel
theorem dX12_bestOf_23 : decode cX12_bestOf 23 = .ok (.invokestatic 285, 3) := by decide +kernel
theorem dX12_bestOf_26 : decode cX12_bestOf 26 = .ok (.iload_n 2, 1) := by decide +kernel
theorem dX12_bestOf_27 : decode cX12_bestOf 27 = .ok (.invokestatic 285, 3) := by decide +kernel
theorem dX12_bestOf_30 : decode cX12_bestOf 30 = .ok (.if_icmp .gt 20, 3) := by decide +kernel
theorem dX12_bestOf_33 : decode cX12_bestOf 33 = .ok (.goto 28, 3) := by decide +kernel
theorem dX12_bestOf_36 : decode cX12_bestOf 36 = .ok (.iload_n 3, 1) := by decide +kernel
theorem dX12_bestOf_37 : decode cX12_bestOf 37 = .ok (.invokestatic 285, 3) := by decide +kernel
theorem dX12_bestOf_40 : decode cX12_bestOf 40 = .ok (.iload_n 2, 1) := by decide +kernel
theorem dX12_bestOf_41 : decode cX12_bestOf 41 = .ok (.invokestatic 285, 3) := by decide +kernel
theorem dX12_bestOf_44 : decode cX12_bestOf 44 = .ok (.if_icmp .lt 6, 3) := by decide +kernel
theorem dX12_bestOf_47 : decode cX12_bestOf 47 = .ok (.goto 14, 3) := by decide +kernel
theorem dX12_bestOf_50 : decode cX12_bestOf 50 = .ok (.aload_n 0, 1) := by decide +kernel
theorem dX12_bestOf_51 : decode cX12_bestOf 51 = .ok (.iload_n 1, 1) := by decide +kernel
theorem dX12_bestOf_52 : decode cX12_bestOf 52 = .ok (.iload_n 3, 1) := by decide +kernel
theorem dX12_bestOf_53 : decode cX12_bestOf 53 = .ok (.invokevirtual 306, 3) := by decide +kernel
theorem dX12_bestOf_56 : decode cX12_bestOf 56 = .ok (.ifCond .eq 5, 3) := by decide +kernel
theorem dX12_bestOf_59 : decode cX12_bestOf 59 = .ok (.iload_n 3, 1) := by decide +kernel
theorem dX12_bestOf_60 : decode cX12_bestOf 60 = .ok (.istore_n 2, 1) := by decide +kernel
theorem dX12_bestOf_61 : decode cX12_bestOf 61 = .ok (.iinc 3 1, 3) := by decide +kernel
theorem dX12_bestOf_64 : decode cX12_bestOf 64 = .ok (.goto (-60), 3) := by decide +kernel
theorem dX12_bestOf_67 : decode cX12_bestOf 67 = .ok (.iload_n 2, 1) := by decide +kernel
theorem dX12_bestOf_68 : decode cX12_bestOf 68 = .ok (.ireturn, 1) := by decide +kernel
theorem dX12_best_0 : decode cX12_best 0 = .ok (.aload_n 0, 1) := by decide +kernel
theorem dX12_best_1 : decode cX12_best 1 = .ok (.iload_n 1, 1) := by decide +kernel
theorem dX12_best_2 : decode cX12_best 2 = .ok (.i2l, 1) := by decide +kernel
theorem dX12_best_3 : decode cX12_best 3 = .ok (.lconst 0, 1) := by decide +kernel
theorem dX12_best_4 : decode cX12_best 4 = .ok (.ldc2_w 235, 3) := by decide +kernel
theorem dX12_best_7 : decode cX12_best 7 = .ok (.invokestatic 134, 3) := by decide +kernel
theorem dX12_best_10 : decode cX12_best 10 = .ok (.ifCond .eq 7, 3) := by decide +kernel
theorem dX12_best_13 : decode cX12_best 13 = .ok (.iconst 0, 1) := by decide +kernel
theorem dX12_best_14 : decode cX12_best 14 = .ok (.goto 4, 3) := by decide +kernel
theorem dX12_best_17 : decode cX12_best 17 = .ok (.iconst 1, 1) := by decide +kernel
theorem dX12_best_18 : decode cX12_best 18 = .ok (.putfield 75, 3) := by decide +kernel
theorem dX12_best_21 : decode cX12_best 21 = .ok (.aload_n 0, 1) := by decide +kernel
theorem dX12_best_22 : decode cX12_best 22 = .ok (.getfield 75, 3) := by decide +kernel
theorem dX12_best_25 : decode cX12_best 25 = .ok (.ifCond .le 5, 3) := by decide +kernel
theorem dX12_best_28 : decode cX12_best 28 = .ok (.iconst 0, 1) := by decide +kernel
theorem dX12_best_29 : decode cX12_best 29 = .ok (.ireturn, 1) := by decide +kernel
theorem dX12_best_30 : decode cX12_best 30 = .ok (.aload_n 0, 1) := by decide +kernel
theorem dX12_best_31 : decode cX12_best 31 = .ok (.invokevirtual 291, 3) := by decide +kernel
theorem dX12_best_34 : decode cX12_best 34 = .ok (.aload_n 0, 1) := by decide +kernel
theorem dX12_best_35 : decode cX12_best 35 = .ok (.iload_n 1, 1) := by decide +kernel
theorem dX12_best_36 : decode cX12_best 36 = .ok (.invokevirtual 309, 3) := by decide +kernel
theorem dX12_best_39 : decode cX12_best 39 = .ok (.ireturn, 1) := by decide +kernel
theorem dX12_gap_0 : decode cX12_gap 0 = .ok (.aload_n 0, 1) := by decide +kernel
theorem dX12_gap_1 : decode cX12_gap 1 = .ok (.iconst 0, 1) := by decide +kernel
theorem dX12_gap_2 : decode cX12_gap 2 = .ok (.putfield 75, 3) := by decide +kernel
theorem dX12_gap_5 : decode cX12_gap 5 = .ok (.aload_n 0, 1) := by decide +kernel
theorem dX12_gap_6 : decode cX12_gap 6 = .ok (.invokevirtual 291, 3) := by decide +kernel
theorem dX12_gap_9 : decode cX12_gap 9 = .ok (.aload_n 0, 1) := by decide +kernel
theorem dX12_gap_10 : decode cX12_gap 10 = .ok (.iconst 0, 1) := by decide +kernel
theorem dX12_gap_11 : decode cX12_gap 11 = .ok (.invokevirtual 309, 3) := by decide +kernel
theorem dX12_gap_14 : decode cX12_gap 14 = .ok (.istore_n 1, 1) := by decide +kernel
theorem dX12_gap_15 : decode cX12_gap 15 = .ok (.iload_n 1, 1) := by decide +kernel
theorem dX12_gap_16 : decode cX12_gap 16 = .ok (.iconst (-1), 1) := by decide +kernel
theorem dX12_gap_17 : decode cX12_gap 17 = .ok (.if_icmp .ne 7, 3) := by decide +kernel
theorem dX12_gap_20 : decode cX12_gap 20 = .ok (.iconst (-1), 1) := by decide +kernel
theorem dX12_gap_21 : decode cX12_gap 21 = .ok (.goto 16, 3) := by decide +kernel
theorem dX12_gap_24 : decode cX12_gap 24 = .ok (.iload_n 1, 1) := by decide +kernel
theorem dX12_gap_25 : decode cX12_gap 25 = .ok (.invokestatic 285, 3) := by decide +kernel
theorem dX12_gap_28 : decode cX12_gap 28 = .ok (.aload_n 0, 1) := by decide +kernel
theorem dX12_gap_29 : decode cX12_gap 29 = .ok (.iconst 3, 1) := by decide +kernel
theorem dX12_gap_30 : decode cX12_gap 30 = .ok (.invokevirtual 309, 3) := by decide +kernel
theorem dX12_gap_33 : decode cX12_gap 33 = .ok (.invokestatic 285, 3) := by decide +kernel
theorem dX12_gap_36 : decode cX12_gap 36 = .ok (.isub, 1) := by decide +kernel
theorem dX12_gap_37 : decode cX12_gap 37 = .ok (.ireturn, 1) := by decide +kernel
theorem dX12_brightOf_0 : decode cX12_brightOf 0 = .ok (.iconst (-1), 1) := by decide +kernel
theorem dX12_brightOf_1 : decode cX12_brightOf 1 = .ok (.istore_n 3, 1) := by decide +kernel
theorem dX12_brightOf_2 : decode cX12_brightOf 2 = .ok (.iconst 0, 1) := by decide +kernel
theorem dX12_brightOf_3 : decode cX12_brightOf 3 = .ok (.istore 4, 2) := by decide +kernel
theorem dX12_brightOf_5 : decode cX12_brightOf 5 = .ok (.iload 4, 2) := by decide +kernel
theorem dX12_brightOf_7 : decode cX12_brightOf 7 = .ok (.aload_n 0, 1) := by decide +kernel
theorem dX12_brightOf_8 : decode cX12_brightOf 8 = .ok (.invokevirtual 230, 3) := by decide +kernel
theorem dX12_brightOf_11 : decode cX12_brightOf 11 = .ok (.if_icmp .gt 91, 3) := by decide +kernel
theorem dX12_brightOf_14 : decode cX12_brightOf 14 = .ok (.iload_n 3, 1) := by decide +kernel
theorem dX12_brightOf_15 : decode cX12_brightOf 15 = .ok (.iconst (-1), 1) := by decide +kernel
theorem dX12_brightOf_16 : decode cX12_brightOf 16 = .ok (.if_icmp .eq 18, 3) := by decide +kernel
theorem dX12_brightOf_19 : decode cX12_brightOf 19 = .ok (.iload 4, 2) := by decide +kernel
theorem dX12_brightOf_21 : decode cX12_brightOf 21 = .ok (.invokestatic 285, 3) := by decide +kernel
theorem dX12_brightOf_24 : decode cX12_brightOf 24 = .ok (.iload_n 3, 1) := by decide +kernel
theorem dX12_brightOf_25 : decode cX12_brightOf 25 = .ok (.invokestatic 285, 3) := by decide +kernel
theorem dX12_brightOf_28 : decode cX12_brightOf 28 = .ok (.if_icmp .lt 6, 3) := by decide +kernel
theorem dX12_brightOf_31 : decode cX12_brightOf 31 = .ok (.goto 65, 3) := by decide +kernel
theorem dX12_brightOf_34 : decode cX12_brightOf 34 = .ok (.iconst 0, 1) := by decide +kernel
theorem dX12_brightOf_35 : decode cX12_brightOf 35 = .ok (.istore 5, 2) := by decide +kernel
theorem dX12_brightOf_37 : decode cX12_brightOf 37 = .ok (.iload 5, 2) := by decide +kernel
theorem dX12_brightOf_39 : decode cX12_brightOf 39 = .ok (.aload_n 0, 1) := by decide +kernel
theorem dX12_brightOf_40 : decode cX12_brightOf 40 = .ok (.invokevirtual 228, 3) := by decide +kernel
theorem dX12_brightOf_43 : decode cX12_brightOf 43 = .ok (.if_icmp .ge 42, 3) := by decide +kernel
theorem dX12_brightOf_46 : decode cX12_brightOf 46 = .ok (.aload_n 0, 1) := by decide +kernel
theorem dX12_brightOf_47 : decode cX12_brightOf 47 = .ok (.getfield 33, 3) := by decide +kernel
theorem dX12_brightOf_50 : decode cX12_brightOf 50 = .ok (.iload 5, 2) := by decide +kernel
theorem dX12_brightOf_52 : decode cX12_brightOf 52 = .ok (.iload 4, 2) := by decide +kernel
theorem dX12_brightOf_54 : decode cX12_brightOf 54 = .ok (.iload 5, 2) := by decide +kernel
theorem dX12_brightOf_56 : decode cX12_brightOf 56 = .ok (.invokestatic 246, 3) := by decide +kernel
theorem dX12_brightOf_59 : decode cX12_brightOf 59 = .ok (.ifCond .eq 18, 3) := by decide +kernel
theorem dX12_brightOf_62 : decode cX12_brightOf 62 = .ok (.aload_n 0, 1) := by decide +kernel
theorem dX12_brightOf_63 : decode cX12_brightOf 63 = .ok (.getfield 9, 3) := by decide +kernel
theorem dX12_brightOf_66 : decode cX12_brightOf 66 = .ok (.sipush 248, 3) := by decide +kernel
theorem dX12_brightOf_69 : decode cX12_brightOf 69 = .ok (.iconst 2, 1) := by decide +kernel
theorem dX12_brightOf_70 : decode cX12_brightOf 70 = .ok (.iload_n 1, 1) := by decide +kernel
theorem dX12_brightOf_71 : decode cX12_brightOf 71 = .ok (.imul, 1) := by decide +kernel
theorem dX12_brightOf_72 : decode cX12_brightOf 72 = .ok (.iadd, 1) := by decide +kernel
theorem dX12_brightOf_73 : decode cX12_brightOf 73 = .ok (.iaload, 1) := by decide +kernel
theorem dX12_brightOf_74 : decode cX12_brightOf 74 = .ok (.goto 4, 3) := by decide +kernel
theorem dX12_brightOf_77 : decode cX12_brightOf 77 = .ok (.iconst 0, 1) := by decide +kernel
theorem dX12_brightOf_78 : decode cX12_brightOf 78 = .ok (.iastore, 1) := by decide +kernel
theorem dX12_brightOf_79 : decode cX12_brightOf 79 = .ok (.iinc 5 1, 3) := by decide +kernel
theorem dX12_brightOf_82 : decode cX12_brightOf 82 = .ok (.goto (-45), 3) := by decide +kernel
theorem dX12_brightOf_85 : decode cX12_brightOf 85 = .ok (.aload_n 0, 1) := by decide +kernel
theorem dX12_brightOf_86 : decode cX12_brightOf 86 = .ok (.iload_n 2, 1) := by decide +kernel
theorem dX12_brightOf_87 : decode cX12_brightOf 87 = .ok (.invokevirtual 259, 3) := by decide +kernel
theorem dX12_brightOf_90 : decode cX12_brightOf 90 = .ok (.ifCond .ne 6, 3) := by decide +kernel
theorem dX12_brightOf_93 : decode cX12_brightOf 93 = .ok (.iload 4, 2) := by decide +kernel
theorem dX12_brightOf_95 : decode cX12_brightOf 95 = .ok (.istore_n 3, 1) := by decide +kernel
theorem dX12_brightOf_96 : decode cX12_brightOf 96 = .ok (.iinc 4 1, 3) := by decide +kernel
theorem dX12_brightOf_99 : decode cX12_brightOf 99 = .ok (.goto (-94), 3) := by decide +kernel
theorem dX12_brightOf_102 : decode cX12_brightOf 102 = .ok (.iload_n 3, 1) := by decide +kernel
theorem dX12_brightOf_103 : decode cX12_brightOf 103 = .ok (.ireturn, 1) := by decide +kernel
theorem dX12_bright_0 : decode cX12_bright 0 = .ok (.aload_n 0, 1) := by decide +kernel
theorem dX12_bright_1 : decode cX12_bright 1 = .ok (.aload_n 0, 1) := by decide +kernel
theorem dX12_bright_2 : decode cX12_bright 2 = .ok (.iload_n 1, 1) := by decide +kernel
theorem dX12_bright_3 : decode cX12_bright 3 = .ok (.invokevirtual 237, 3) := by decide +kernel
theorem dX12_bright_6 : decode cX12_bright 6 = .ok (.ifCond .ne 7, 3) := by decide +kernel
theorem dX12_bright_9 : decode cX12_bright 9 = .ok (.iconst 1, 1) := by decide +kernel
theorem dX12_bright_10 : decode cX12_bright 10 = .ok (.goto 15, 3) := by decide +kernel
theorem dX12_bright_13 : decode cX12_bright 13 = .ok (.iload_n 2, 1) := by decide +kernel
theorem dX12_bright_14 : decode cX12_bright 14 = .ok (.invokestatic 270, 3) := by decide +kernel
theorem dX12_bright_17 : decode cX12_bright 17 = .ok (.ifCond .eq 7, 3) := by decide +kernel
theorem dX12_bright_20 : decode cX12_bright 20 = .ok (.iconst 0, 1) := by decide +kernel
theorem dX12_bright_21 : decode cX12_bright 21 = .ok (.goto 4, 3) := by decide +kernel
theorem dX12_bright_24 : decode cX12_bright 24 = .ok (.iconst 2, 1) := by decide +kernel
theorem dX12_bright_25 : decode cX12_bright 25 = .ok (.putfield 75, 3) := by decide +kernel
theorem dX12_bright_28 : decode cX12_bright 28 = .ok (.aload_n 0, 1) := by decide +kernel
theorem dX12_bright_29 : decode cX12_bright 29 = .ok (.getfield 75, 3) := by decide +kernel
theorem dX12_bright_32 : decode cX12_bright 32 = .ok (.ifCond .le 7, 3) := by decide +kernel
theorem dX12_bright_35 : decode cX12_bright 35 = .ok (.iconst 0, 1) := by decide +kernel
theorem dX12_bright_36 : decode cX12_bright 36 = .ok (.goto 9, 3) := by decide +kernel
theorem dX12_bright_39 : decode cX12_bright 39 = .ok (.aload_n 0, 1) := by decide +kernel
theorem dX12_bright_40 : decode cX12_bright 40 = .ok (.iload_n 1, 1) := by decide +kernel
theorem dX12_bright_41 : decode cX12_bright 41 = .ok (.iload_n 2, 1) := by decide +kernel
theorem dX12_bright_42 : decode cX12_bright 42 = .ok (.invokevirtual 312, 3) := by decide +kernel
theorem dX12_bright_45 : decode cX12_bright 45 = .ok (.ireturn, 1) := by decide +kernel
theorem dX12_among_0 : decode cX12_among 0 = .ok (.aload_n 0, 1) := by decide +kernel
theorem dX12_among_1 : decode cX12_among 1 = .ok (.invokevirtual 291, 3) := by decide +kernel
theorem dX12_among_4 : decode cX12_among 4 = .ok (.aload_n 0, 1) := by decide +kernel
theorem dX12_among_5 : decode cX12_among 5 = .ok (.iconst 0, 1) := by decide +kernel
theorem dX12_among_6 : decode cX12_among 6 = .ok (.invokevirtual 309, 3) := by decide +kernel
theorem dX12_among_9 : decode cX12_among 9 = .ok (.istore_n 2, 1) := by decide +kernel
theorem dX12_among_10 : decode cX12_among 10 = .ok (.iload_n 2, 1) := by decide +kernel
theorem dX12_among_11 : decode cX12_among 11 = .ok (.iconst (-1), 1) := by decide +kernel
theorem dX12_among_12 : decode cX12_among 12 = .ok (.if_icmp .ne 5, 3) := by decide +kernel
theorem dX12_among_15 : decode cX12_among 15 = .ok (.iconst 0, 1) := by decide +kernel
theorem dX12_among_16 : decode cX12_among 16 = .ok (.ireturn, 1) := by decide +kernel
theorem dX12_among_17 : decode cX12_among 17 = .ok (.iload_n 2, 1) := by decide +kernel
theorem dX12_among_18 : decode cX12_among 18 = .ok (.istore_n 3, 1) := by decide +kernel
theorem dX12_among_19 : decode cX12_among 19 = .ok (.iconst 0, 1) := by decide +kernel
theorem dX12_among_20 : decode cX12_among 20 = .ok (.istore 4, 2) := by decide +kernel
theorem dX12_among_22 : decode cX12_among 22 = .ok (.iload 4, 2) := by decide +kernel
theorem dX12_among_24 : decode cX12_among 24 = .ok (.aload_n 0, 1) := by decide +kernel
theorem dX12_among_25 : decode cX12_among 25 = .ok (.invokevirtual 230, 3) := by decide +kernel
theorem dX12_among_28 : decode cX12_among 28 = .ok (.if_icmp .gt 53, 3) := by decide +kernel
theorem dX12_among_31 : decode cX12_among 31 = .ok (.iload 4, 2) := by decide +kernel
theorem dX12_among_33 : decode cX12_among 33 = .ok (.invokestatic 285, 3) := by decide +kernel
theorem dX12_among_36 : decode cX12_among 36 = .ok (.iload_n 2, 1) := by decide +kernel
theorem dX12_among_37 : decode cX12_among 37 = .ok (.invokestatic 285, 3) := by decide +kernel
theorem dX12_among_40 : decode cX12_among 40 = .ok (.if_icmp .ne 35, 3) := by decide +kernel
theorem dX12_among_43 : decode cX12_among 43 = .ok (.aload_n 0, 1) := by decide +kernel
theorem dX12_among_44 : decode cX12_among 44 = .ok (.iload 4, 2) := by decide +kernel
theorem dX12_among_46 : decode cX12_among 46 = .ok (.aload_n 0, 1) := by decide +kernel
theorem dX12_among_47 : decode cX12_among 47 = .ok (.invokevirtual 230, 3) := by decide +kernel
theorem dX12_among_50 : decode cX12_among 50 = .ok (.invokevirtual 294, 3) := by decide +kernel
theorem dX12_among_53 : decode cX12_among 53 = .ok (.ifCond .ne 6, 3) := by decide +kernel
theorem dX12_among_56 : decode cX12_among 56 = .ok (.goto 19, 3) := by decide +kernel
theorem dX12_among_59 : decode cX12_among 59 = .ok (.iload_n 1, 1) := by decide +kernel
theorem dX12_among_60 : decode cX12_among 60 = .ok (.ifCond .eq 10, 3) := by decide +kernel
theorem dX12_among_63 : decode cX12_among 63 = .ok (.iload_n 3, 1) := by decide +kernel
theorem dX12_among_64 : decode cX12_among 64 = .ok (.iload 4, 2) := by decide +kernel
theorem dX12_among_66 : decode cX12_among 66 = .ok (.iand, 1) := by decide +kernel
theorem dX12_among_67 : decode cX12_among 67 = .ok (.goto 7, 3) := by decide +kernel
theorem dX12_among_70 : decode cX12_among 70 = .ok (.iload_n 3, 1) := by decide +kernel
theorem dX12_among_71 : decode cX12_among 71 = .ok (.iload 4, 2) := by decide +kernel
theorem dX12_among_73 : decode cX12_among 73 = .ok (.ior, 1) := by decide +kernel
theorem dX12_among_74 : decode cX12_among 74 = .ok (.istore_n 3, 1) := by decide +kernel
theorem dX12_among_75 : decode cX12_among 75 = .ok (.iinc 4 1, 3) := by decide +kernel
theorem dX12_among_78 : decode cX12_among 78 = .ok (.goto (-56), 3) := by decide +kernel
theorem dX12_among_81 : decode cX12_among 81 = .ok (.iload_n 3, 1) := by decide +kernel
theorem dX12_among_82 : decode cX12_among 82 = .ok (.ireturn, 1) := by decide +kernel
theorem dX12_always_0 : decode cX12_always 0 = .ok (.aload_n 0, 1) := by decide +kernel
theorem dX12_always_1 : decode cX12_always 1 = .ok (.iconst 0, 1) := by decide +kernel
theorem dX12_always_2 : decode cX12_always 2 = .ok (.putfield 75, 3) := by decide +kernel
theorem dX12_always_5 : decode cX12_always 5 = .ok (.aload_n 0, 1) := by decide +kernel
theorem dX12_always_6 : decode cX12_always 6 = .ok (.iconst 1, 1) := by decide +kernel
theorem dX12_always_7 : decode cX12_always 7 = .ok (.invokevirtual 315, 3) := by decide +kernel
theorem dX12_always_10 : decode cX12_always 10 = .ok (.ireturn, 1) := by decide +kernel
theorem dX12_ever_0 : decode cX12_ever 0 = .ok (.aload_n 0, 1) := by decide +kernel
theorem dX12_ever_1 : decode cX12_ever 1 = .ok (.iconst 0, 1) := by decide +kernel
theorem dX12_ever_2 : decode cX12_ever 2 = .ok (.putfield 75, 3) := by decide +kernel
theorem dX12_ever_5 : decode cX12_ever 5 = .ok (.aload_n 0, 1) := by decide +kernel
theorem dX12_ever_6 : decode cX12_ever 6 = .ok (.iconst 0, 1) := by decide +kernel
theorem dX12_ever_7 : decode cX12_ever 7 = .ok (.invokevirtual 315, 3) := by decide +kernel
theorem dX12_ever_10 : decode cX12_ever 10 = .ok (.ireturn, 1) := by decide +kernel
theorem dX12_barred_0 : decode cX12_barred 0 = .ok (.aload_n 0, 1) := by decide +kernel
theorem dX12_barred_1 : decode cX12_barred 1 = .ok (.aload_n 0, 1) := by decide +kernel
theorem dX12_barred_2 : decode cX12_barred 2 = .ok (.iload_n 1, 1) := by decide +kernel
theorem dX12_barred_3 : decode cX12_barred 3 = .ok (.invokevirtual 240, 3) := by decide +kernel
theorem dX12_barred_6 : decode cX12_barred 6 = .ok (.ifCond .eq 7, 3) := by decide +kernel
theorem dX12_barred_9 : decode cX12_barred 9 = .ok (.iconst 0, 1) := by decide +kernel
theorem dX12_barred_10 : decode cX12_barred 10 = .ok (.goto 4, 3) := by decide +kernel
theorem dX12_barred_13 : decode cX12_barred 13 = .ok (.iconst 1, 1) := by decide +kernel
theorem dX12_barred_14 : decode cX12_barred 14 = .ok (.putfield 75, 3) := by decide +kernel
theorem dX12_barred_17 : decode cX12_barred 17 = .ok (.aload_n 0, 1) := by decide +kernel
theorem dX12_barred_18 : decode cX12_barred 18 = .ok (.getfield 75, 3) := by decide +kernel
theorem dX12_barred_21 : decode cX12_barred 21 = .ok (.ifCond .le 5, 3) := by decide +kernel
theorem dX12_barred_24 : decode cX12_barred 24 = .ok (.iconst 0, 1) := by decide +kernel
theorem dX12_barred_25 : decode cX12_barred 25 = .ok (.ireturn, 1) := by decide +kernel
theorem dX12_barred_26 : decode cX12_barred 26 = .ok (.aload_n 0, 1) := by decide +kernel
theorem dX12_barred_27 : decode cX12_barred 27 = .ok (.invokevirtual 291, 3) := by decide +kernel
theorem dX12_barred_30 : decode cX12_barred 30 = .ok (.iconst (-1), 1) := by decide +kernel
theorem dX12_barred_31 : decode cX12_barred 31 = .ok (.istore_n 2, 1) := by decide +kernel
theorem dX12_barred_32 : decode cX12_barred 32 = .ok (.iconst 0, 1) := by decide +kernel
theorem dX12_barred_33 : decode cX12_barred 33 = .ok (.istore_n 3, 1) := by decide +kernel
theorem dX12_barred_34 : decode cX12_barred 34 = .ok (.iload_n 3, 1) := by decide +kernel
theorem dX12_barred_35 : decode cX12_barred 35 = .ok (.aload_n 0, 1) := by decide +kernel
theorem dX12_barred_36 : decode cX12_barred 36 = .ok (.invokevirtual 230, 3) := by decide +kernel
theorem dX12_barred_39 : decode cX12_barred 39 = .ok (.if_icmp .gt 47, 3) := by decide +kernel
theorem dX12_barred_42 : decode cX12_barred 42 = .ok (.iload_n 3, 1) := by decide +kernel
theorem dX12_barred_43 : decode cX12_barred 43 = .ok (.iload_n 1, 1) := by decide +kernel
theorem dX12_barred_44 : decode cX12_barred 44 = .ok (.invokestatic 246, 3) := by decide +kernel
theorem dX12_barred_47 : decode cX12_barred 47 = .ok (.ifCond .ne 33, 3) := by decide +kernel
theorem dX12_barred_50 : decode cX12_barred 50 = .ok (.iload_n 2, 1) := by decide +kernel
theorem dX12_barred_51 : decode cX12_barred 51 = .ok (.iconst (-1), 1) := by decide +kernel
theorem dX12_barred_52 : decode cX12_barred 52 = .ok (.if_icmp .eq 11, 3) := by decide +kernel
theorem dX12_barred_55 : decode cX12_barred 55 = .ok (.iload_n 3, 1) := by decide +kernel
theorem dX12_barred_56 : decode cX12_barred 56 = .ok (.invokestatic 285, 3) := by decide +kernel
theorem dX12_barred_59 : decode cX12_barred 59 = .ok (.iload_n 2, 1) := by decide +kernel
theorem dX12_barred_60 : decode cX12_barred 60 = .ok (.if_icmp .ge 20, 3) := by decide +kernel
theorem dX12_barred_63 : decode cX12_barred 63 = .ok (.aload_n 0, 1) := by decide +kernel
theorem dX12_barred_64 : decode cX12_barred 64 = .ok (.iload_n 3, 1) := by decide +kernel
theorem dX12_barred_65 : decode cX12_barred 65 = .ok (.aload_n 0, 1) := by decide +kernel
theorem dX12_barred_66 : decode cX12_barred 66 = .ok (.invokevirtual 230, 3) := by decide +kernel
theorem dX12_barred_69 : decode cX12_barred 69 = .ok (.invokevirtual 294, 3) := by decide +kernel
theorem dX12_barred_72 : decode cX12_barred 72 = .ok (.ifCond .eq 8, 3) := by decide +kernel
theorem dX12_barred_75 : decode cX12_barred 75 = .ok (.iload_n 3, 1) := by decide +kernel
theorem dX12_barred_76 : decode cX12_barred 76 = .ok (.invokestatic 285, 3) := by decide +kernel
theorem dX12_barred_79 : decode cX12_barred 79 = .ok (.istore_n 2, 1) := by decide +kernel
theorem dX12_barred_80 : decode cX12_barred 80 = .ok (.iinc 3 1, 3) := by decide +kernel
theorem dX12_barred_83 : decode cX12_barred 83 = .ok (.goto (-49), 3) := by decide +kernel
theorem dX12_barred_86 : decode cX12_barred 86 = .ok (.iload_n 2, 1) := by decide +kernel
theorem dX12_barred_87 : decode cX12_barred 87 = .ok (.ireturn, 1) := by decide +kernel
theorem dX12_day_0 : decode cX12_day 0 = .ok (.aload_n 0, 1) := by decide +kernel
theorem dX12_day_1 : decode cX12_day 1 = .ok (.aload_n 0, 1) := by decide +kernel
theorem dX12_day_2 : decode cX12_day 2 = .ok (.iload_n 1, 1) := by decide +kernel
theorem dX12_day_3 : decode cX12_day 3 = .ok (.invokevirtual 237, 3) := by decide +kernel
theorem dX12_day_6 : decode cX12_day 6 = .ok (.ifCond .eq 7, 3) := by decide +kernel
theorem dX12_day_9 : decode cX12_day 9 = .ok (.iconst 0, 1) := by decide +kernel
theorem dX12_day_10 : decode cX12_day 10 = .ok (.goto 4, 3) := by decide +kernel
theorem dX12_day_13 : decode cX12_day 13 = .ok (.iconst 1, 1) := by decide +kernel
theorem dX12_day_14 : decode cX12_day 14 = .ok (.putfield 75, 3) := by decide +kernel
theorem dX12_day_17 : decode cX12_day 17 = .ok (.aload_n 0, 1) := by decide +kernel
theorem dX12_day_18 : decode cX12_day 18 = .ok (.getfield 75, 3) := by decide +kernel
theorem dX12_day_21 : decode cX12_day 21 = .ok (.ifCond .le 5, 3) := by decide +kernel
theorem dX12_day_24 : decode cX12_day 24 = .ok (.iconst 0, 1) := by decide +kernel
theorem dX12_day_25 : decode cX12_day 25 = .ok (.ireturn, 1) := by decide +kernel
theorem dX12_day_26 : decode cX12_day 26 = .ok (.iconst 0, 1) := by decide +kernel
theorem dX12_day_27 : decode cX12_day 27 = .ok (.istore_n 2, 1) := by decide +kernel
theorem dX12_day_28 : decode cX12_day 28 = .ok (.iconst 0, 1) := by decide +kernel
theorem dX12_day_29 : decode cX12_day 29 = .ok (.istore_n 3, 1) := by decide +kernel
theorem dX12_day_30 : decode cX12_day 30 = .ok (.iload_n 3, 1) := by decide +kernel
theorem dX12_day_31 : decode cX12_day 31 = .ok (.bipush 24, 2) := by decide +kernel
theorem dX12_day_33 : decode cX12_day 33 = .ok (.if_icmp .ge 48, 3) := by decide +kernel
theorem dX12_day_36 : decode cX12_day 36 = .ok (.aload_n 0, 1) := by decide +kernel
theorem dX12_day_37 : decode cX12_day 37 = .ok (.iload_n 1, 1) := by decide +kernel
theorem dX12_day_38 : decode cX12_day 38 = .ok (.iload_n 3, 1) := by decide +kernel
theorem dX12_day_39 : decode cX12_day 39 = .ok (.invokevirtual 312, 3) := by decide +kernel
theorem dX12_day_42 : decode cX12_day 42 = .ok (.istore 4, 2) := by decide +kernel
theorem dX12_day_44 : decode cX12_day 44 = .ok (.iload 4, 2) := by decide +kernel
theorem dX12_day_46 : decode cX12_day 46 = .ok (.iconst (-1), 1) := by decide +kernel
theorem dX12_day_47 : decode cX12_day 47 = .ok (.if_icmp .ne 5, 3) := by decide +kernel
theorem dX12_day_50 : decode cX12_day 50 = .ok (.iconst (-1), 1) := by decide +kernel
theorem dX12_day_51 : decode cX12_day 51 = .ok (.ireturn, 1) := by decide +kernel
theorem dX12_day_52 : decode cX12_day 52 = .ok (.iload_n 2, 1) := by decide +kernel
theorem dX12_day_53 : decode cX12_day 53 = .ok (.iload 4, 2) := by decide +kernel
theorem dX12_day_55 : decode cX12_day 55 = .ok (.invokestatic 285, 3) := by decide +kernel
theorem dX12_day_58 : decode cX12_day 58 = .ok (.aload_n 0, 1) := by decide +kernel
theorem dX12_day_59 : decode cX12_day 59 = .ok (.getfield 9, 3) := by decide +kernel
theorem dX12_day_62 : decode cX12_day 62 = .ok (.sipush 248, 3) := by decide +kernel
theorem dX12_day_65 : decode cX12_day 65 = .ok (.iconst 2, 1) := by decide +kernel
theorem dX12_day_66 : decode cX12_day 66 = .ok (.iload_n 1, 1) := by decide +kernel
theorem dX12_day_67 : decode cX12_day 67 = .ok (.imul, 1) := by decide +kernel
theorem dX12_day_68 : decode cX12_day 68 = .ok (.iadd, 1) := by decide +kernel
theorem dX12_day_69 : decode cX12_day 69 = .ok (.iconst 1, 1) := by decide +kernel
theorem dX12_day_70 : decode cX12_day 70 = .ok (.iadd, 1) := by decide +kernel
theorem dX12_day_71 : decode cX12_day 71 = .ok (.iaload, 1) := by decide +kernel
theorem dX12_day_72 : decode cX12_day 72 = .ok (.imul, 1) := by decide +kernel
theorem dX12_day_73 : decode cX12_day 73 = .ok (.iadd, 1) := by decide +kernel
theorem dX12_day_74 : decode cX12_day 74 = .ok (.istore_n 2, 1) := by decide +kernel
theorem dX12_day_75 : decode cX12_day 75 = .ok (.iinc 3 1, 3) := by decide +kernel
theorem dX12_day_78 : decode cX12_day 78 = .ok (.goto (-48), 3) := by decide +kernel
theorem dX12_day_81 : decode cX12_day 81 = .ok (.iload_n 2, 1) := by decide +kernel
theorem dX12_day_82 : decode cX12_day 82 = .ok (.ireturn, 1) := by decide +kernel
theorem dX12_layMixed_0 : decode cX12_layMixed 0 = .ok (.iload_n 1, 1) := by decide +kernel
theorem dX12_layMixed_1 : decode cX12_layMixed 1 = .ok (.istore_n 2, 1) := by decide +kernel
theorem dX12_layMixed_2 : decode cX12_layMixed 2 = .ok (.iconst 0, 1) := by decide +kernel
theorem dX12_layMixed_3 : decode cX12_layMixed 3 = .ok (.istore_n 3, 1) := by decide +kernel
theorem dX12_layMixed_4 : decode cX12_layMixed 4 = .ok (.aload_n 0, 1) := by decide +kernel
theorem dX12_layMixed_5 : decode cX12_layMixed 5 = .ok (.invokevirtual 228, 3) := by decide +kernel
theorem dX12_layMixed_8 : decode cX12_layMixed 8 = .ok (.iconst 1, 1) := by decide +kernel
theorem dX12_layMixed_9 : decode cX12_layMixed 9 = .ok (.isub, 1) := by decide +kernel
theorem dX12_layMixed_10 : decode cX12_layMixed 10 = .ok (.istore 4, 2) := by decide +kernel
theorem dX12_layMixed_12 : decode cX12_layMixed 12 = .ok (.iload 4, 2) := by decide +kernel
theorem dX12_layMixed_14 : decode cX12_layMixed 14 = .ok (.ifCond .lt 106, 3) := by decide +kernel
theorem dX12_layMixed_17 : decode cX12_layMixed 17 = .ok (.iload_n 2, 1) := by decide +kernel
theorem dX12_layMixed_18 : decode cX12_layMixed 18 = .ok (.aload_n 0, 1) := by decide +kernel
theorem dX12_layMixed_19 : decode cX12_layMixed 19 = .ok (.getfield 9, 3) := by decide +kernel
theorem dX12_layMixed_22 : decode cX12_layMixed 22 = .ok (.iconst 3, 1) := by decide +kernel
theorem dX12_layMixed_23 : decode cX12_layMixed 23 = .ok (.iaload, 1) := by decide +kernel
theorem dX12_layMixed_24 : decode cX12_layMixed 24 = .ok (.iconst 1, 1) := by decide +kernel
theorem dX12_layMixed_25 : decode cX12_layMixed 25 = .ok (.iadd, 1) := by decide +kernel
theorem dX12_layMixed_26 : decode cX12_layMixed 26 = .ok (.irem, 1) := by decide +kernel
theorem dX12_layMixed_27 : decode cX12_layMixed 27 = .ok (.iconst 1, 1) := by decide +kernel
theorem dX12_layMixed_28 : decode cX12_layMixed 28 = .ok (.isub, 1) := by decide +kernel
theorem dX12_layMixed_29 : decode cX12_layMixed 29 = .ok (.istore 5, 2) := by decide +kernel
theorem dX12_layMixed_31 : decode cX12_layMixed 31 = .ok (.iload_n 2, 1) := by decide +kernel
theorem dX12_layMixed_32 : decode cX12_layMixed 32 = .ok (.aload_n 0, 1) := by decide +kernel
theorem dX12_layMixed_33 : decode cX12_layMixed 33 = .ok (.getfield 9, 3) := by decide +kernel
theorem dX12_layMixed_36 : decode cX12_layMixed 36 = .ok (.iconst 3, 1) := by decide +kernel
theorem dX12_layMixed_37 : decode cX12_layMixed 37 = .ok (.iaload, 1) := by decide +kernel
theorem dX12_layMixed_38 : decode cX12_layMixed 38 = .ok (.iconst 1, 1) := by decide +kernel
theorem dX12_layMixed_39 : decode cX12_layMixed 39 = .ok (.iadd, 1) := by decide +kernel
