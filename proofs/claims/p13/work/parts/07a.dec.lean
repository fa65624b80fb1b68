theorem dX8_init_0 : decode cX8_init 0 = .ok (.aload_n 0, 1) := by decide +kernel
theorem dX8_init_1 : decode cX8_init 1 = .ok (.invokespecial 1, 3) := by decide +kernel
theorem dX8_init_4 : decode cX8_init 4 = .ok (.aload_n 0, 1) := by decide +kernel
theorem dX8_init_5 : decode cX8_init 5 = .ok (.bipush 6, 2) := by decide +kernel
theorem dX8_init_7 : decode cX8_init 7 = .ok (.anewarray 9, 3) := by decide +kernel
theorem dX8_init_10 : decode cX8_init 10 = .ok (.putfield 11, 3) := by decide +kernel
theorem dX8_init_13 : decode cX8_init 13 = .ok (.aload_n 0, 1) := by decide +kernel
theorem dX8_init_14 : decode cX8_init 14 = .ok (.bipush 6, 2) := by decide +kernel
theorem dX8_init_16 : decode cX8_init 16 = .ok (.newarray .int, 2) := by decide +kernel
theorem dX8_init_18 : decode cX8_init 18 = .ok (.putfield 15, 3) := by decide +kernel
theorem dX8_init_21 : decode cX8_init 21 = .ok (.aload_n 0, 1) := by decide +kernel
theorem dX8_init_22 : decode cX8_init 22 = .ok (.bipush 40, 2) := by decide +kernel
theorem dX8_init_24 : decode cX8_init 24 = .ok (.anewarray 19, 3) := by decide +kernel
theorem dX8_init_27 : decode cX8_init 27 = .ok (.putfield 21, 3) := by decide +kernel
theorem dX8_init_30 : decode cX8_init 30 = .ok (.aload_n 0, 1) := by decide +kernel
theorem dX8_init_31 : decode cX8_init 31 = .ok (.new 25, 3) := by decide +kernel
theorem dX8_init_34 : decode cX8_init 34 = .ok (.dup, 1) := by decide +kernel
theorem dX8_init_35 : decode cX8_init 35 = .ok (.invokespecial 27, 3) := by decide +kernel
theorem dX8_init_38 : decode cX8_init 38 = .ok (.putfield 28, 3) := by decide +kernel
theorem dX8_init_41 : decode cX8_init 41 = .ok (.aload_n 0, 1) := by decide +kernel
theorem dX8_init_42 : decode cX8_init 42 = .ok (.new 32, 3) := by decide +kernel
theorem dX8_init_45 : decode cX8_init 45 = .ok (.dup, 1) := by decide +kernel
theorem dX8_init_46 : decode cX8_init 46 = .ok (.invokespecial 34, 3) := by decide +kernel
theorem dX8_init_49 : decode cX8_init 49 = .ok (.putfield 35, 3) := by decide +kernel
theorem dX8_init_52 : decode cX8_init 52 = .ok (.aload_n 0, 1) := by decide +kernel
theorem dX8_init_53 : decode cX8_init 53 = .ok (.new 32, 3) := by decide +kernel
theorem dX8_init_56 : decode cX8_init 56 = .ok (.dup, 1) := by decide +kernel
theorem dX8_init_57 : decode cX8_init 57 = .ok (.invokespecial 34, 3) := by decide +kernel
theorem dX8_init_60 : decode cX8_init 60 = .ok (.putfield 39, 3) := by decide +kernel
theorem dX8_init_63 : decode cX8_init 63 = .ok (.aload_n 0, 1) := by decide +kernel
theorem dX8_init_64 : decode cX8_init 64 = .ok (.iconst 1, 1) := by decide +kernel
theorem dX8_init_65 : decode cX8_init 65 = .ok (.putfield 42, 3) := by decide +kernel
theorem dX8_init_68 : decode cX8_init 68 = .ok (.iconst 0, 1) := by decide +kernel
theorem dX8_init_69 : decode cX8_init 69 = .ok (.istore_n 1, 1) := by decide +kernel
theorem dX8_init_70 : decode cX8_init 70 = .ok (.iload_n 1, 1) := by decide +kernel
theorem dX8_init_71 : decode cX8_init 71 = .ok (.aload_n 0, 1) := by decide +kernel
theorem dX8_init_72 : decode cX8_init 72 = .ok (.getfield 11, 3) := by decide +kernel
theorem dX8_init_75 : decode cX8_init 75 = .ok (.arraylength, 1) := by decide +kernel
theorem dX8_init_76 : decode cX8_init 76 = .ok (.if_icmp .ge 23, 3) := by decide +kernel
theorem dX8_init_79 : decode cX8_init 79 = .ok (.aload_n 0, 1) := by decide +kernel
theorem dX8_init_80 : decode cX8_init 80 = .ok (.getfield 11, 3) := by decide +kernel
theorem dX8_init_83 : decode cX8_init 83 = .ok (.iload_n 1, 1) := by decide +kernel
theorem dX8_init_84 : decode cX8_init 84 = .ok (.new 9, 3) := by decide +kernel
theorem dX8_init_87 : decode cX8_init 87 = .ok (.dup, 1) := by decide +kernel
theorem dX8_init_88 : decode cX8_init 88 = .ok (.iload_n 1, 1) := by decide +kernel
theorem dX8_init_89 : decode cX8_init 89 = .ok (.invokespecial 46, 3) := by decide +kernel
theorem dX8_init_92 : decode cX8_init 92 = .ok (.aastore, 1) := by decide +kernel
theorem dX8_init_93 : decode cX8_init 93 = .ok (.iinc 1 1, 3) := by decide +kernel
theorem dX8_init_96 : decode cX8_init 96 = .ok (.goto (-26), 3) := by decide +kernel
theorem dX8_init_99 : decode cX8_init 99 = .ok (.new 9, 3) := by decide +kernel
theorem dX8_init_102 : decode cX8_init 102 = .ok (.dup, 1) := by decide +kernel
theorem dX8_init_103 : decode cX8_init 103 = .ok (.iconst 0, 1) := by decide +kernel
theorem dX8_init_104 : decode cX8_init 104 = .ok (.invokespecial 46, 3) := by decide +kernel
theorem dX8_init_107 : decode cX8_init 107 = .ok (.astore_n 1, 1) := by decide +kernel
theorem dX8_init_108 : decode cX8_init 108 = .ok (.iconst 0, 1) := by decide +kernel
theorem dX8_init_109 : decode cX8_init 109 = .ok (.istore_n 2, 1) := by decide +kernel
theorem dX8_init_110 : decode cX8_init 110 = .ok (.iload_n 2, 1) := by decide +kernel
theorem dX8_init_111 : decode cX8_init 111 = .ok (.aload_n 0, 1) := by decide +kernel
theorem dX8_init_112 : decode cX8_init 112 = .ok (.getfield 21, 3) := by decide +kernel
theorem dX8_init_115 : decode cX8_init 115 = .ok (.arraylength, 1) := by decide +kernel
theorem dX8_init_116 : decode cX8_init 116 = .ok (.if_icmp .ge 42, 3) := by decide +kernel
theorem dX8_init_119 : decode cX8_init 119 = .ok (.new 49, 3) := by decide +kernel
theorem dX8_init_122 : decode cX8_init 122 = .ok (.dup, 1) := by decide +kernel
theorem dX8_init_123 : decode cX8_init 123 = .ok (.invokespecial 51, 3) := by decide +kernel
theorem dX8_init_126 : decode cX8_init 126 = .ok (.astore_n 3, 1) := by decide +kernel
theorem dX8_init_127 : decode cX8_init 127 = .ok (.aload_n 0, 1) := by decide +kernel
theorem dX8_init_128 : decode cX8_init 128 = .ok (.getfield 21, 3) := by decide +kernel
theorem dX8_init_131 : decode cX8_init 131 = .ok (.iload_n 2, 1) := by decide +kernel
theorem dX8_init_132 : decode cX8_init 132 = .ok (.new 19, 3) := by decide +kernel
theorem dX8_init_135 : decode cX8_init 135 = .ok (.dup, 1) := by decide +kernel
theorem dX8_init_136 : decode cX8_init 136 = .ok (.iload_n 2, 1) := by decide +kernel
theorem dX8_init_137 : decode cX8_init 137 = .ok (.aload_n 1, 1) := by decide +kernel
theorem dX8_init_138 : decode cX8_init 138 = .ok (.aload_n 3, 1) := by decide +kernel
theorem dX8_init_139 : decode cX8_init 139 = .ok (.new 52, 3) := by decide +kernel
theorem dX8_init_142 : decode cX8_init 142 = .ok (.dup, 1) := by decide +kernel
theorem dX8_init_143 : decode cX8_init 143 = .ok (.aload_n 1, 1) := by decide +kernel
theorem dX8_init_144 : decode cX8_init 144 = .ok (.aload_n 3, 1) := by decide +kernel
theorem dX8_init_145 : decode cX8_init 145 = .ok (.invokespecial 54, 3) := by decide +kernel
theorem dX8_init_148 : decode cX8_init 148 = .ok (.invokespecial 57, 3) := by decide +kernel
theorem dX8_init_151 : decode cX8_init 151 = .ok (.aastore, 1) := by decide +kernel
theorem dX8_init_152 : decode cX8_init 152 = .ok (.iinc 2 1, 3) := by decide +kernel
theorem dX8_init_155 : decode cX8_init 155 = .ok (.goto (-45), 3) := by decide +kernel
theorem dX8_init_158 : decode cX8_init 158 = .ok (.aload_n 0, 1) := by decide +kernel
theorem dX8_init_159 : decode cX8_init 159 = .ok (.new 52, 3) := by decide +kernel
theorem dX8_init_162 : decode cX8_init 162 = .ok (.dup, 1) := by decide +kernel
theorem dX8_init_163 : decode cX8_init 163 = .ok (.aload_n 1, 1) := by decide +kernel
theorem dX8_init_164 : decode cX8_init 164 = .ok (.new 49, 3) := by decide +kernel
theorem dX8_init_167 : decode cX8_init 167 = .ok (.dup, 1) := by decide +kernel
theorem dX8_init_168 : decode cX8_init 168 = .ok (.invokespecial 51, 3) := by decide +kernel
theorem dX8_init_171 : decode cX8_init 171 = .ok (.invokespecial 54, 3) := by decide +kernel
theorem dX8_init_174 : decode cX8_init 174 = .ok (.putfield 60, 3) := by decide +kernel
theorem dX8_init_177 : decode cX8_init 177 = .ok (.return_, 1) := by decide +kernel
theorem dJx4a65c_init_da8c8_0 : decode cJx4a65c_init_da8c8 0 = .ok (.aload_n 0, 1) := by decide +kernel
theorem dJx4a65c_init_da8c8_1 : decode cJx4a65c_init_da8c8 1 = .ok (.invokespecial 1, 3) := by decide +kernel
theorem dJx4a65c_init_da8c8_4 : decode cJx4a65c_init_da8c8 4 = .ok (.aload_n 0, 1) := by decide +kernel
theorem dJx4a65c_init_da8c8_5 : decode cJx4a65c_init_da8c8 5 = .ok (.getstatic 39, 3) := by decide +kernel
theorem dJx4a65c_init_da8c8_8 : decode cJx4a65c_init_da8c8 8 = .ok (.putfield 9, 3) := by decide +kernel
theorem dJx4a65c_init_da8c8_11 : decode cJx4a65c_init_da8c8 11 = .ok (.return_, 1) := by decide +kernel
theorem dJxc12de_init_da8c8_0 : decode cJxc12de_init_da8c8 0 = .ok (.aload_n 0, 1) := by decide +kernel
theorem dJxc12de_init_da8c8_1 : decode cJxc12de_init_da8c8 1 = .ok (.invokespecial 1, 3) := by decide +kernel
theorem dJxc12de_init_da8c8_4 : decode cJxc12de_init_da8c8 4 = .ok (.aload_n 0, 1) := by decide +kernel
theorem dJxc12de_init_da8c8_5 : decode cJxc12de_init_da8c8 5 = .ok (.iconst 0, 1) := by decide +kernel
theorem dJxc12de_init_da8c8_6 : decode cJxc12de_init_da8c8 6 = .ok (.putfield 7, 3) := by decide +kernel
theorem dJxc12de_init_da8c8_9 : decode cJxc12de_init_da8c8 9 = .ok (.return_, 1) := by decide +kernel
theorem dJxa1e45_init_da8c8_0 : decode cJxa1e45_init_da8c8 0 = .ok (.aload_n 0, 1) := by decide +kernel
theorem dJxa1e45_init_da8c8_1 : decode cJxa1e45_init_da8c8 1 = .ok (.invokespecial 1, 3) := by decide +kernel
theorem dJxa1e45_init_da8c8_4 : decode cJxa1e45_init_da8c8 4 = .ok (.return_, 1) := by decide +kernel
theorem dX2_init_0 : decode cX2_init 0 = .ok (.aload_n 0, 1) := by decide +kernel
theorem dX2_init_1 : decode cX2_init 1 = .ok (.invokespecial 3, 3) := by decide +kernel
theorem dX2_init_4 : decode cX2_init 4 = .ok (.aload_n 0, 1) := by decide +kernel
theorem dX2_init_5 : decode cX2_init 5 = .ok (.sipush 128, 3) := by decide +kernel
theorem dX2_init_8 : decode cX2_init 8 = .ok (.anewarray 9, 3) := by decide +kernel
theorem dX2_init_11 : decode cX2_init 11 = .ok (.putfield 11, 3) := by decide +kernel
theorem dX2_init_14 : decode cX2_init 14 = .ok (.return_, 1) := by decide +kernel
theorem dX4_init_0 : decode cX4_init 0 = .ok (.aload_n 0, 1) := by decide +kernel
theorem dX4_init_1 : decode cX4_init 1 = .ok (.invokespecial 3, 3) := by decide +kernel
theorem dX4_init_4 : decode cX4_init 4 = .ok (.aload_n 0, 1) := by decide +kernel
theorem dX4_init_5 : decode cX4_init 5 = .ok (.bipush 20, 2) := by decide +kernel
theorem dX4_init_7 : decode cX4_init 7 = .ok (.newarray .int, 2) := by decide +kernel
theorem dX4_init_9 : decode cX4_init 9 = .ok (.putfield 9, 3) := by decide +kernel
theorem dX4_init_12 : decode cX4_init 12 = .ok (.aload_n 0, 1) := by decide +kernel
theorem dX4_init_13 : decode cX4_init 13 = .ok (.bipush 20, 2) := by decide +kernel
theorem dX4_init_15 : decode cX4_init 15 = .ok (.newarray .int, 2) := by decide +kernel
theorem dX4_init_17 : decode cX4_init 17 = .ok (.putfield 15, 3) := by decide +kernel
theorem dX4_init_20 : decode cX4_init 20 = .ok (.aload_n 0, 1) := by decide +kernel
theorem dX4_init_21 : decode cX4_init 21 = .ok (.bipush 20, 2) := by decide +kernel
theorem dX4_init_23 : decode cX4_init 23 = .ok (.newarray .int, 2) := by decide +kernel
theorem dX4_init_25 : decode cX4_init 25 = .ok (.putfield 18, 3) := by decide +kernel
theorem dX4_init_28 : decode cX4_init 28 = .ok (.aload_n 0, 1) := by decide +kernel
theorem dX4_init_29 : decode cX4_init 29 = .ok (.iload_n 1, 1) := by decide +kernel
theorem dX4_init_30 : decode cX4_init 30 = .ok (.putfield 21, 3) := by decide +kernel
theorem dX4_init_33 : decode cX4_init 33 = .ok (.return_, 1) := by decide +kernel
theorem dX1_init_0 : decode cX1_init 0 = .ok (.aload_n 0, 1) := by decide +kernel
theorem dX1_init_1 : decode cX1_init 1 = .ok (.invokespecial 3, 3) := by decide +kernel
theorem dX1_init_4 : decode cX1_init 4 = .ok (.aload_n 0, 1) := by decide +kernel
theorem dX1_init_5 : decode cX1_init 5 = .ok (.sipush 140, 3) := by decide +kernel
theorem dX1_init_8 : decode cX1_init 8 = .ok (.newarray .byte, 2) := by decide +kernel
theorem dX1_init_10 : decode cX1_init 10 = .ok (.putfield 9, 3) := by decide +kernel
theorem dX1_init_13 : decode cX1_init 13 = .ok (.aload_n 0, 1) := by decide +kernel
theorem dX1_init_14 : decode cX1_init 14 = .ok (.sipush 140, 3) := by decide +kernel
theorem dX1_init_17 : decode cX1_init 17 = .ok (.newarray .long, 2) := by decide +kernel
theorem dX1_init_19 : decode cX1_init 19 = .ok (.putfield 15, 3) := by decide +kernel
theorem dX1_init_22 : decode cX1_init 22 = .ok (.return_, 1) := by decide +kernel
theorem dX5_init_0 : decode cX5_init 0 = .ok (.aload_n 0, 1) := by decide +kernel
theorem dX5_init_1 : decode cX5_init 1 = .ok (.invokespecial 3, 3) := by decide +kernel
theorem dX5_init_4 : decode cX5_init 4 = .ok (.aload_n 0, 1) := by decide +kernel
theorem dX5_init_5 : decode cX5_init 5 = .ok (.new 9, 3) := by decide +kernel
theorem dX5_init_8 : decode cX5_init 8 = .ok (.dup, 1) := by decide +kernel
theorem dX5_init_9 : decode cX5_init 9 = .ok (.invokespecial 11, 3) := by decide +kernel
theorem dX5_init_12 : decode cX5_init 12 = .ok (.putfield 12, 3) := by decide +kernel
theorem dX5_init_15 : decode cX5_init 15 = .ok (.aload_n 0, 1) := by decide +kernel
theorem dX5_init_16 : decode cX5_init 16 = .ok (.new 18, 3) := by decide +kernel
theorem dX5_init_19 : decode cX5_init 19 = .ok (.dup, 1) := by decide +kernel
theorem dX5_init_20 : decode cX5_init 20 = .ok (.invokespecial 20, 3) := by decide +kernel
theorem dX5_init_23 : decode cX5_init 23 = .ok (.putfield 21, 3) := by decide +kernel
theorem dX5_init_26 : decode cX5_init 26 = .ok (.aload_n 0, 1) := by decide +kernel
theorem dX5_init_27 : decode cX5_init 27 = .ok (.aload_n 1, 1) := by decide +kernel
theorem dX5_init_28 : decode cX5_init 28 = .ok (.putfield 25, 3) := by decide +kernel
theorem dX5_init_31 : decode cX5_init 31 = .ok (.aload_n 0, 1) := by decide +kernel
theorem dX5_init_32 : decode cX5_init 32 = .ok (.aload_n 2, 1) := by decide +kernel
theorem dX5_init_33 : decode cX5_init 33 = .ok (.putfield 29, 3) := by decide +kernel
theorem dX5_init_36 : decode cX5_init 36 = .ok (.return_, 1) := by decide +kernel
theorem dX3_init_0 : decode cX3_init 0 = .ok (.aload_n 0, 1) := by decide +kernel
theorem dX3_init_1 : decode cX3_init 1 = .ok (.invokespecial 3, 3) := by decide +kernel
theorem dX3_init_4 : decode cX3_init 4 = .ok (.aload_n 0, 1) := by decide +kernel
theorem dX3_init_5 : decode cX3_init 5 = .ok (.bipush 20, 2) := by decide +kernel
theorem dX3_init_7 : decode cX3_init 7 = .ok (.newarray .int, 2) := by decide +kernel
theorem dX3_init_9 : decode cX3_init 9 = .ok (.putfield 9, 3) := by decide +kernel
theorem dX3_init_12 : decode cX3_init 12 = .ok (.return_, 1) := by decide +kernel
theorem dX6_init_0 : decode cX6_init 0 = .ok (.aload_n 0, 1) := by decide +kernel
theorem dX6_init_1 : decode cX6_init 1 = .ok (.invokespecial 3, 3) := by decide +kernel
theorem dX6_init_4 : decode cX6_init 4 = .ok (.aload_n 0, 1) := by decide +kernel
theorem dX6_init_5 : decode cX6_init 5 = .ok (.bipush 90, 2) := by decide +kernel
theorem dX6_init_7 : decode cX6_init 7 = .ok (.newarray .int, 2) := by decide +kernel
theorem dX6_init_9 : decode cX6_init 9 = .ok (.putfield 9, 3) := by decide +kernel
theorem dX6_init_12 : decode cX6_init 12 = .ok (.return_, 1) := by decide +kernel
theorem dX0_init_0 : decode cX0_init 0 = .ok (.aload_n 0, 1) := by decide +kernel
theorem dX0_init_1 : decode cX0_init 1 = .ok (.invokespecial 3, 3) := by decide +kernel
theorem dX0_init_4 : decode cX0_init 4 = .ok (.aload_n 0, 1) := by decide +kernel
theorem dX0_init_5 : decode cX0_init 5 = .ok (.iconst (-1), 1) := by decide +kernel
theorem dX0_init_6 : decode cX0_init 6 = .ok (.putfield 9, 3) := by decide +kernel
theorem dX0_init_9 : decode cX0_init 9 = .ok (.aload_n 0, 1) := by decide +kernel
theorem dX0_init_10 : decode cX0_init 10 = .ok (.iconst (-1), 1) := by decide +kernel
theorem dX0_init_11 : decode cX0_init 11 = .ok (.putfield 15, 3) := by decide +kernel
theorem dX0_init_14 : decode cX0_init 14 = .ok (.aload_n 0, 1) := by decide +kernel
theorem dX0_init_15 : decode cX0_init 15 = .ok (.iconst (-1), 1) := by decide +kernel
theorem dX0_init_16 : decode cX0_init 16 = .ok (.putfield 18, 3) := by decide +kernel
theorem dX0_init_19 : decode cX0_init 19 = .ok (.aload_n 0, 1) := by decide +kernel
theorem dX0_init_20 : decode cX0_init 20 = .ok (.iload_n 1, 1) := by decide +kernel
theorem dX0_init_21 : decode cX0_init 21 = .ok (.putfield 21, 3) := by decide +kernel
theorem dX0_init_24 : decode cX0_init 24 = .ok (.aload_n 0, 1) := by decide +kernel
theorem dX0_init_25 : decode cX0_init 25 = .ok (.aload_n 2, 1) := by decide +kernel
theorem dX0_init_26 : decode cX0_init 26 = .ok (.putfield 24, 3) := by decide +kernel
theorem dX0_init_29 : decode cX0_init 29 = .ok (.aload_n 0, 1) := by decide +kernel
theorem dX0_init_30 : decode cX0_init 30 = .ok (.aload_n 3, 1) := by decide +kernel
theorem dX0_init_31 : decode cX0_init 31 = .ok (.putfield 28, 3) := by decide +kernel
theorem dX0_init_34 : decode cX0_init 34 = .ok (.aload_n 0, 1) := by decide +kernel
theorem dX0_init_35 : decode cX0_init 35 = .ok (.aload 4, 2) := by decide +kernel
theorem dX0_init_37 : decode cX0_init 37 = .ok (.putfield 32, 3) := by decide +kernel
theorem dX0_init_40 : decode cX0_init 40 = .ok (.return_, 1) := by decide +kernel
theorem dX8_crash_0 : decode cX8_crash 0 = .ok (.iconst 0, 1) := by decide +kernel
theorem dX8_crash_1 : decode cX8_crash 1 = .ok (.istore_n 1, 1) := by decide +kernel
theorem dX8_crash_2 : decode cX8_crash 2 = .ok (.iconst 0, 1) := by decide +kernel
theorem dX8_crash_3 : decode cX8_crash 3 = .ok (.istore_n 2, 1) := by decide +kernel
theorem dX8_crash_4 : decode cX8_crash 4 = .ok (.iload_n 2, 1) := by decide +kernel
theorem dX8_crash_5 : decode cX8_crash 5 = .ok (.aload_n 0, 1) := by decide +kernel
theorem dX8_crash_6 : decode cX8_crash 6 = .ok (.getfield 96, 3) := by decide +kernel
theorem dX8_crash_9 : decode cX8_crash 9 = .ok (.if_icmp .ge 33, 3) := by decide +kernel
theorem dX8_crash_12 : decode cX8_crash 12 = .ok (.aload_n 0, 1) := by decide +kernel
theorem dX8_crash_13 : decode cX8_crash 13 = .ok (.iload_n 2, 1) := by decide +kernel
theorem dX8_crash_14 : decode cX8_crash 14 = .ok (.invokevirtual 99, 3) := by decide +kernel
theorem dX8_crash_17 : decode cX8_crash 17 = .ok (.astore_n 3, 1) := by decide +kernel
theorem dX8_crash_18 : decode cX8_crash 18 = .ok (.aload_n 3, 1) := by decide +kernel
theorem dX8_crash_19 : decode cX8_crash 19 = .ok (.ifnull 17, 3) := by decide +kernel
theorem dX8_crash_22 : decode cX8_crash 22 = .ok (.aload_n 3, 1) := by decide +kernel
theorem dX8_crash_23 : decode cX8_crash 23 = .ok (.invokevirtual 107, 3) := by decide +kernel
theorem dX8_crash_26 : decode cX8_crash 26 = .ok (.ifCond .ne 10, 3) := by decide +kernel
theorem dX8_crash_29 : decode cX8_crash 29 = .ok (.aload_n 3, 1) := by decide +kernel
theorem dX8_crash_30 : decode cX8_crash 30 = .ok (.invokevirtual 193, 3) := by decide +kernel
theorem dX8_crash_33 : decode cX8_crash 33 = .ok (.iinc 1 1, 3) := by decide +kernel
theorem dX8_crash_36 : decode cX8_crash 36 = .ok (.iinc 2 1, 3) := by decide +kernel
theorem dX8_crash_39 : decode cX8_crash 39 = .ok (.goto (-35), 3) := by decide +kernel
theorem dX8_crash_42 : decode cX8_crash 42 = .ok (.iload_n 1, 1) := by decide +kernel
theorem dX8_crash_43 : decode cX8_crash 43 = .ok (.ireturn, 1) := by decide +kernel
theorem dX8_flowAt_0 : decode cX8_flowAt 0 = .ok (.iload_n 1, 1) := by decide +kernel
theorem dX8_flowAt_1 : decode cX8_flowAt 1 = .ok (.ifCond .lt 24, 3) := by decide +kernel
theorem dX8_flowAt_4 : decode cX8_flowAt 4 = .ok (.iload_n 1, 1) := by decide +kernel
theorem dX8_flowAt_5 : decode cX8_flowAt 5 = .ok (.aload_n 0, 1) := by decide +kernel
theorem dX8_flowAt_6 : decode cX8_flowAt 6 = .ok (.getfield 96, 3) := by decide +kernel
theorem dX8_flowAt_9 : decode cX8_flowAt 9 = .ok (.if_icmp .ge 16, 3) := by decide +kernel
theorem dX8_flowAt_12 : decode cX8_flowAt 12 = .ok (.iload_n 1, 1) := by decide +kernel
theorem dX8_flowAt_13 : decode cX8_flowAt 13 = .ok (.aload_n 0, 1) := by decide +kernel
theorem dX8_flowAt_14 : decode cX8_flowAt 14 = .ok (.getfield 21, 3) := by decide +kernel
theorem dX8_flowAt_17 : decode cX8_flowAt 17 = .ok (.arraylength, 1) := by decide +kernel
theorem dX8_flowAt_18 : decode cX8_flowAt 18 = .ok (.if_icmp .ge 7, 3) := by decide +kernel
theorem dX8_flowAt_21 : decode cX8_flowAt 21 = .ok (.iconst 1, 1) := by decide +kernel
theorem dX8_flowAt_22 : decode cX8_flowAt 22 = .ok (.goto 4, 3) := by decide +kernel
theorem dX8_flowAt_25 : decode cX8_flowAt 25 = .ok (.iconst 0, 1) := by decide +kernel
theorem dX8_flowAt_26 : decode cX8_flowAt 26 = .ok (.istore_n 2, 1) := by decide +kernel
theorem dX8_flowAt_27 : decode cX8_flowAt 27 = .ok (.iload_n 2, 1) := by decide +kernel
theorem dX8_flowAt_28 : decode cX8_flowAt 28 = .ok (.ifCond .eq 12, 3) := by decide +kernel
theorem dX8_flowAt_31 : decode cX8_flowAt 31 = .ok (.aload_n 0, 1) := by decide +kernel
theorem dX8_flowAt_32 : decode cX8_flowAt 32 = .ok (.getfield 21, 3) := by decide +kernel
theorem dX8_flowAt_35 : decode cX8_flowAt 35 = .ok (.iload_n 1, 1) := by decide +kernel
theorem dX8_flowAt_36 : decode cX8_flowAt 36 = .ok (.aaload, 1) := by decide +kernel
theorem dX8_flowAt_37 : decode cX8_flowAt 37 = .ok (.goto 4, 3) := by decide +kernel
theorem dX8_flowAt_40 : decode cX8_flowAt 40 = .ok (.aconst_null, 1) := by decide +kernel
theorem dX8_flowAt_41 : decode cX8_flowAt 41 = .ok (.areturn, 1) := by decide +kernel
theorem dX0_hasEnded_0 : decode cX0_hasEnded 0 = .ok (.aload_n 0, 1) := by decide +kernel
theorem dX0_hasEnded_1 : decode cX0_hasEnded 1 = .ok (.getfield 28, 3) := by decide +kernel
theorem dX0_hasEnded_4 : decode cX0_hasEnded 4 = .ok (.invokevirtual 36, 3) := by decide +kernel
theorem dX0_hasEnded_7 : decode cX0_hasEnded 7 = .ok (.ifCond .eq 7, 3) := by decide +kernel
theorem dX0_hasEnded_10 : decode cX0_hasEnded 10 = .ok (.iconst 1, 1) := by decide +kernel
theorem dX0_hasEnded_11 : decode cX0_hasEnded 11 = .ok (.goto 4, 3) := by decide +kernel
theorem dX0_hasEnded_14 : decode cX0_hasEnded 14 = .ok (.iconst 0, 1) := by decide +kernel
theorem dX0_hasEnded_15 : decode cX0_hasEnded 15 = .ok (.ireturn, 1) := by decide +kernel
theorem dX1_ending_0 : decode cX1_ending 0 = .ok (.aload_n 0, 1) := by decide +kernel
theorem dX1_ending_1 : decode cX1_ending 1 = .ok (.aload_n 0, 1) := by decide +kernel
theorem dX1_ending_2 : decode cX1_ending 2 = .ok (.getfield 19, 3) := by decide +kernel
theorem dX1_ending_5 : decode cX1_ending 5 = .ok (.iconst 1, 1) := by decide +kernel
theorem dX1_ending_6 : decode cX1_ending 6 = .ok (.isub, 1) := by decide +kernel
theorem dX1_ending_7 : decode cX1_ending 7 = .ok (.invokevirtual 23, 3) := by decide +kernel
theorem dX1_ending_10 : decode cX1_ending 10 = .ok (.bipush 13, 2) := by decide +kernel
theorem dX1_ending_12 : decode cX1_ending 12 = .ok (.if_icmp .ne 23, 3) := by decide +kernel
theorem dX1_ending_15 : decode cX1_ending 15 = .ok (.aload_n 0, 1) := by decide +kernel
theorem dX1_ending_16 : decode cX1_ending 16 = .ok (.aload_n 0, 1) := by decide +kernel
theorem dX1_ending_17 : decode cX1_ending 17 = .ok (.getfield 19, 3) := by decide +kernel
theorem dX1_ending_20 : decode cX1_ending 20 = .ok (.iconst 1, 1) := by decide +kernel
theorem dX1_ending_21 : decode cX1_ending 21 = .ok (.isub, 1) := by decide +kernel
theorem dX1_ending_22 : decode cX1_ending 22 = .ok (.invokevirtual 27, 3) := by decide +kernel
theorem dX1_ending_25 : decode cX1_ending 25 = .ok (.ldc2_w 31, 3) := by decide +kernel
theorem dX1_ending_28 : decode cX1_ending 28 = .ok (.invokestatic 33, 3) := by decide +kernel
theorem dX1_ending_31 : decode cX1_ending 31 = .ok (.l2i, 1) := by decide +kernel
theorem dX1_ending_32 : decode cX1_ending 32 = .ok (.goto 4, 3) := by decide +kernel
theorem dX1_ending_35 : decode cX1_ending 35 = .ok (.iconst 0, 1) := by decide +kernel
theorem dX1_ending_36 : decode cX1_ending 36 = .ok (.ireturn, 1) := by decide +kernel
theorem dX1_kindAt_0 : decode cX1_kindAt 0 = .ok (.iload_n 1, 1) := by decide +kernel
theorem dX1_kindAt_1 : decode cX1_kindAt 1 = .ok (.ifCond .lt 29, 3) := by decide +kernel
theorem dX1_kindAt_4 : decode cX1_kindAt 4 = .ok (.iload_n 1, 1) := by decide +kernel
theorem dX1_kindAt_5 : decode cX1_kindAt 5 = .ok (.aload_n 0, 1) := by decide +kernel
theorem dX1_kindAt_6 : decode cX1_kindAt 6 = .ok (.getfield 19, 3) := by decide +kernel
theorem dX1_kindAt_9 : decode cX1_kindAt 9 = .ok (.if_icmp .ge 21, 3) := by decide +kernel
theorem dX1_kindAt_12 : decode cX1_kindAt 12 = .ok (.iload_n 1, 1) := by decide +kernel
theorem dX1_kindAt_13 : decode cX1_kindAt 13 = .ok (.aload_n 0, 1) := by decide +kernel
theorem dX1_kindAt_14 : decode cX1_kindAt 14 = .ok (.getfield 9, 3) := by decide +kernel
theorem dX1_kindAt_17 : decode cX1_kindAt 17 = .ok (.arraylength, 1) := by decide +kernel
theorem dX1_kindAt_18 : decode cX1_kindAt 18 = .ok (.if_icmp .ge 12, 3) := by decide +kernel
theorem dX1_kindAt_21 : decode cX1_kindAt 21 = .ok (.aload_n 0, 1) := by decide +kernel
theorem dX1_kindAt_22 : decode cX1_kindAt 22 = .ok (.getfield 9, 3) := by decide +kernel
theorem dX1_kindAt_25 : decode cX1_kindAt 25 = .ok (.iload_n 1, 1) := by decide +kernel
theorem dX1_kindAt_26 : decode cX1_kindAt 26 = .ok (.baload, 1) := by decide +kernel
theorem dX1_kindAt_27 : decode cX1_kindAt 27 = .ok (.goto 4, 3) := by decide +kernel
theorem dX1_kindAt_30 : decode cX1_kindAt 30 = .ok (.iconst (-1), 1) := by decide +kernel
theorem dX1_kindAt_31 : decode cX1_kindAt 31 = .ok (.ireturn, 1) := by decide +kernel
theorem dX1_numberAt_0 : decode cX1_numberAt 0 = .ok (.iload_n 1, 1) := by decide +kernel
theorem dX1_numberAt_1 : decode cX1_numberAt 1 = .ok (.ifCond .lt 29, 3) := by decide +kernel
theorem dX1_numberAt_4 : decode cX1_numberAt 4 = .ok (.iload_n 1, 1) := by decide +kernel
theorem dX1_numberAt_5 : decode cX1_numberAt 5 = .ok (.aload_n 0, 1) := by decide +kernel
theorem dX1_numberAt_6 : decode cX1_numberAt 6 = .ok (.getfield 19, 3) := by decide +kernel
theorem dX1_numberAt_9 : decode cX1_numberAt 9 = .ok (.if_icmp .ge 21, 3) := by decide +kernel
theorem dX1_numberAt_12 : decode cX1_numberAt 12 = .ok (.iload_n 1, 1) := by decide +kernel
theorem dX1_numberAt_13 : decode cX1_numberAt 13 = .ok (.aload_n 0, 1) := by decide +kernel
theorem dX1_numberAt_14 : decode cX1_numberAt 14 = .ok (.getfield 15, 3) := by decide +kernel
theorem dX1_numberAt_17 : decode cX1_numberAt 17 = .ok (.arraylength, 1) := by decide +kernel
theorem dX1_numberAt_18 : decode cX1_numberAt 18 = .ok (.if_icmp .ge 12, 3) := by decide +kernel
theorem dX1_numberAt_21 : decode cX1_numberAt 21 = .ok (.aload_n 0, 1) := by decide +kernel
theorem dX1_numberAt_22 : decode cX1_numberAt 22 = .ok (.getfield 15, 3) := by decide +kernel
theorem dX1_numberAt_25 : decode cX1_numberAt 25 = .ok (.iload_n 1, 1) := by decide +kernel
theorem dX1_numberAt_26 : decode cX1_numberAt 26 = .ok (.laload, 1) := by decide +kernel
theorem dX1_numberAt_27 : decode cX1_numberAt 27 = .ok (.goto 4, 3) := by decide +kernel
theorem dX1_numberAt_30 : decode cX1_numberAt 30 = .ok (.lconst 0, 1) := by decide +kernel
theorem dX1_numberAt_31 : decode cX1_numberAt 31 = .ok (.lreturn, 1) := by decide +kernel
theorem dJ9_floorMod_f86c9_0 : decode cJ9_floorMod_f86c9 0 = .ok (.lload_n 0, 1) := by decide +kernel
theorem dJ9_floorMod_f86c9_1 : decode cJ9_floorMod_f86c9 1 = .ok (.lload_n 2, 1) := by decide +kernel
theorem dJ9_floorMod_f86c9_2 : decode cJ9_floorMod_f86c9 2 = .ok (.lrem, 1) := by decide +kernel
theorem dJ9_floorMod_f86c9_3 : decode cJ9_floorMod_f86c9 3 = .ok (.lstore 4, 2) := by decide +kernel
theorem dJ9_floorMod_f86c9_5 : decode cJ9_floorMod_f86c9 5 = .ok (.lload_n 0, 1) := by decide +kernel
theorem dJ9_floorMod_f86c9_6 : decode cJ9_floorMod_f86c9 6 = .ok (.lload_n 2, 1) := by decide +kernel
theorem dJ9_floorMod_f86c9_7 : decode cJ9_floorMod_f86c9 7 = .ok (.lxor, 1) := by decide +kernel
theorem dJ9_floorMod_f86c9_8 : decode cJ9_floorMod_f86c9 8 = .ok (.lconst 0, 1) := by decide +kernel
theorem dJ9_floorMod_f86c9_9 : decode cJ9_floorMod_f86c9 9 = .ok (.lcmp, 1) := by decide +kernel
theorem dJ9_floorMod_f86c9_10 : decode cJ9_floorMod_f86c9 10 = .ok (.ifCond .ge 15, 3) := by decide +kernel
theorem dJ9_floorMod_f86c9_13 : decode cJ9_floorMod_f86c9 13 = .ok (.lload 4, 2) := by decide +kernel
theorem dJ9_floorMod_f86c9_15 : decode cJ9_floorMod_f86c9 15 = .ok (.lconst 0, 1) := by decide +kernel
theorem dJ9_floorMod_f86c9_16 : decode cJ9_floorMod_f86c9 16 = .ok (.lcmp, 1) := by decide +kernel
theorem dJ9_floorMod_f86c9_17 : decode cJ9_floorMod_f86c9 17 = .ok (.ifCond .eq 8, 3) := by decide +kernel
theorem dJ9_floorMod_f86c9_20 : decode cJ9_floorMod_f86c9 20 = .ok (.lload 4, 2) := by decide +kernel
theorem dJ9_floorMod_f86c9_22 : decode cJ9_floorMod_f86c9 22 = .ok (.lload_n 2, 1) := by decide +kernel
theorem dJ9_floorMod_f86c9_23 : decode cJ9_floorMod_f86c9 23 = .ok (.ladd, 1) := by decide +kernel
theorem dJ9_floorMod_f86c9_24 : decode cJ9_floorMod_f86c9 24 = .ok (.lreturn, 1) := by decide +kernel
theorem dJ9_floorMod_f86c9_25 : decode cJ9_floorMod_f86c9 25 = .ok (.lload 4, 2) := by decide +kernel
theorem dJ9_floorMod_f86c9_27 : decode cJ9_floorMod_f86c9 27 = .ok (.lreturn, 1) := by decide +kernel
theorem dX0_findAgain_0 : decode cX0_findAgain 0 = .ok (.aload_n 0, 1) := by decide +kernel
theorem dX0_findAgain_1 : decode cX0_findAgain 1 = .ok (.getfield 32, 3) := by decide +kernel
theorem dX0_findAgain_4 : decode cX0_findAgain 4 = .ok (.aload_n 0, 1) := by decide +kernel
theorem dX0_findAgain_5 : decode cX0_findAgain 5 = .ok (.getfield 24, 3) := by decide +kernel
theorem dX0_findAgain_8 : decode cX0_findAgain 8 = .ok (.aload_n 0, 1) := by decide +kernel
theorem dX0_findAgain_9 : decode cX0_findAgain 9 = .ok (.getfield 28, 3) := by decide +kernel
theorem dX0_findAgain_12 : decode cX0_findAgain 12 = .ok (.invokevirtual 61, 3) := by decide +kernel
theorem dX0_findAgain_15 : decode cX0_findAgain 15 = .ok (.aload_n 0, 1) := by decide +kernel
theorem dX0_findAgain_16 : decode cX0_findAgain 16 = .ok (.getfield 32, 3) := by decide +kernel
theorem dX0_findAgain_19 : decode cX0_findAgain 19 = .ok (.aload_n 0, 1) := by decide +kernel
theorem dX0_findAgain_20 : decode cX0_findAgain 20 = .ok (.getfield 28, 3) := by decide +kernel
theorem dX0_findAgain_23 : decode cX0_findAgain 23 = .ok (.invokevirtual 46, 3) := by decide +kernel
theorem dX0_findAgain_26 : decode cX0_findAgain 26 = .ok (.invokevirtual 65, 3) := by decide +kernel
theorem dX0_findAgain_29 : decode cX0_findAgain 29 = .ok (.return_, 1) := by decide +kernel
theorem dX5_begin_0 : decode cX5_begin 0 = .ok (.aload_n 0, 1) := by decide +kernel
theorem dX5_begin_1 : decode cX5_begin 1 = .ok (.aload_n 1, 1) := by decide +kernel
theorem dX5_begin_2 : decode cX5_begin 2 = .ok (.putfield 25, 3) := by decide +kernel
theorem dX5_begin_5 : decode cX5_begin 5 = .ok (.aload_n 0, 1) := by decide +kernel
theorem dX5_begin_6 : decode cX5_begin 6 = .ok (.aload_n 2, 1) := by decide +kernel
theorem dX5_begin_7 : decode cX5_begin 7 = .ok (.putfield 29, 3) := by decide +kernel
theorem dX5_begin_10 : decode cX5_begin 10 = .ok (.aload_n 0, 1) := by decide +kernel
theorem dX5_begin_11 : decode cX5_begin 11 = .ok (.getfield 12, 3) := by decide +kernel
theorem dX5_begin_14 : decode cX5_begin 14 = .ok (.iconst 0, 1) := by decide +kernel
theorem dX5_begin_15 : decode cX5_begin 15 = .ok (.putfield 33, 3) := by decide +kernel
theorem dX5_begin_18 : decode cX5_begin 18 = .ok (.aload_n 0, 1) := by decide +kernel
theorem dX5_begin_19 : decode cX5_begin 19 = .ok (.getfield 21, 3) := by decide +kernel
theorem dX5_begin_22 : decode cX5_begin 22 = .ok (.iconst 0, 1) := by decide +kernel
theorem dX5_begin_23 : decode cX5_begin 23 = .ok (.putfield 37, 3) := by decide +kernel
theorem dX5_begin_26 : decode cX5_begin 26 = .ok (.aload_n 0, 1) := by decide +kernel
theorem dX5_begin_27 : decode cX5_begin 27 = .ok (.iconst 1, 1) := by decide +kernel
theorem dX5_begin_28 : decode cX5_begin 28 = .ok (.putfield 38, 3) := by decide +kernel
theorem dX5_begin_31 : decode cX5_begin 31 = .ok (.aload_n 0, 1) := by decide +kernel
theorem dX5_begin_32 : decode cX5_begin 32 = .ok (.iconst 0, 1) := by decide +kernel
theorem dX5_begin_33 : decode cX5_begin 33 = .ok (.putfield 41, 3) := by decide +kernel
theorem dX5_begin_36 : decode cX5_begin 36 = .ok (.aload_n 0, 1) := by decide +kernel
theorem dX5_begin_37 : decode cX5_begin 37 = .ok (.aload_n 2, 1) := by decide +kernel
theorem dX5_begin_38 : decode cX5_begin 38 = .ok (.iconst 0, 1) := by decide +kernel
theorem dX5_begin_39 : decode cX5_begin 39 = .ok (.invokevirtual 44, 3) := by decide +kernel
theorem dX5_begin_42 : decode cX5_begin 42 = .ok (.l2i, 1) := by decide +kernel
theorem dX5_begin_43 : decode cX5_begin 43 = .ok (.putfield 50, 3) := by decide +kernel
theorem dX5_begin_46 : decode cX5_begin 46 = .ok (.aload_n 0, 1) := by decide +kernel
theorem dX5_begin_47 : decode cX5_begin 47 = .ok (.iconst 0, 1) := by decide +kernel
theorem dX5_begin_48 : decode cX5_begin 48 = .ok (.putfield 53, 3) := by decide +kernel
theorem dX5_begin_51 : decode cX5_begin 51 = .ok (.aload_n 0, 1) := by decide +kernel
theorem dX5_begin_52 : decode cX5_begin 52 = .ok (.iconst 0, 1) := by decide +kernel
theorem dX5_begin_53 : decode cX5_begin 53 = .ok (.putfield 56, 3) := by decide +kernel
theorem dX5_begin_56 : decode cX5_begin 56 = .ok (.aload_n 0, 1) := by decide +kernel
theorem dX5_begin_57 : decode cX5_begin 57 = .ok (.iconst (-1), 1) := by decide +kernel
theorem dX5_begin_58 : decode cX5_begin 58 = .ok (.putfield 59, 3) := by decide +kernel
theorem dX5_begin_61 : decode cX5_begin 61 = .ok (.aload_n 0, 1) := by decide +kernel
theorem dX5_begin_62 : decode cX5_begin 62 = .ok (.iconst (-1), 1) := by decide +kernel
theorem dX5_begin_63 : decode cX5_begin 63 = .ok (.putfield 62, 3) := by decide +kernel
theorem dX5_begin_66 : decode cX5_begin 66 = .ok (.aload_n 0, 1) := by decide +kernel
theorem dX5_begin_67 : decode cX5_begin 67 = .ok (.lconst 0, 1) := by decide +kernel
theorem dX5_begin_68 : decode cX5_begin 68 = .ok (.putfield 65, 3) := by decide +kernel
theorem dX5_begin_71 : decode cX5_begin 71 = .ok (.aload_n 0, 1) := by decide +kernel
theorem dX5_begin_72 : decode cX5_begin 72 = .ok (.iconst 0, 1) := by decide +kernel
theorem dX5_begin_73 : decode cX5_begin 73 = .ok (.putfield 69, 3) := by decide +kernel
theorem dX5_begin_76 : decode cX5_begin 76 = .ok (.aload_n 0, 1) := by decide +kernel
theorem dX5_begin_77 : decode cX5_begin 77 = .ok (.iconst 0, 1) := by decide +kernel
theorem dX5_begin_78 : decode cX5_begin 78 = .ok (.putfield 73, 3) := by decide +kernel
theorem dX5_begin_81 : decode cX5_begin 81 = .ok (.aload_n 0, 1) := by decide +kernel
theorem dX5_begin_82 : decode cX5_begin 82 = .ok (.iconst 0, 1) := by decide +kernel
theorem dX5_begin_83 : decode cX5_begin 83 = .ok (.putfield 76, 3) := by decide +kernel
theorem dX5_begin_86 : decode cX5_begin 86 = .ok (.aload_n 0, 1) := by decide +kernel
theorem dX5_begin_87 : decode cX5_begin 87 = .ok (.iconst 0, 1) := by decide +kernel
theorem dX5_begin_88 : decode cX5_begin 88 = .ok (.putfield 79, 3) := by decide +kernel
theorem dX5_begin_91 : decode cX5_begin 91 = .ok (.aload_n 0, 1) := by decide +kernel
theorem dX5_begin_92 : decode cX5_begin 92 = .ok (.iconst (-1), 1) := by decide +kernel
theorem dX5_begin_93 : decode cX5_begin 93 = .ok (.putfield 82, 3) := by decide +kernel
theorem dX5_begin_96 : decode cX5_begin 96 = .ok (.aload_n 0, 1) := by decide +kernel
theorem dX5_begin_97 : decode cX5_begin 97 = .ok (.lconst 0, 1) := by decide +kernel
theorem dX5_begin_98 : decode cX5_begin 98 = .ok (.putfield 85, 3) := by decide +kernel
theorem dX5_begin_101 : decode cX5_begin 101 = .ok (.aload_n 0, 1) := by decide +kernel
theorem dX5_begin_102 : decode cX5_begin 102 = .ok (.iconst (-1), 1) := by decide +kernel
theorem dX5_begin_103 : decode cX5_begin 103 = .ok (.putfield 88, 3) := by decide +kernel
theorem dX5_begin_106 : decode cX5_begin 106 = .ok (.aload_n 0, 1) := by decide +kernel
theorem dX5_begin_107 : decode cX5_begin 107 = .ok (.iconst 0, 1) := by decide +kernel
theorem dX5_begin_108 : decode cX5_begin 108 = .ok (.putfield 91, 3) := by decide +kernel
theorem dX5_begin_111 : decode cX5_begin 111 = .ok (.return_, 1) := by decide +kernel
theorem dX1_size_0 : decode cX1_size 0 = .ok (.aload_n 0, 1) := by decide +kernel
theorem dX1_size_1 : decode cX1_size 1 = .ok (.getfield 19, 3) := by decide +kernel
theorem dX1_size_4 : decode cX1_size 4 = .ok (.ireturn, 1) := by decide +kernel
theorem dX5_advance_0 : decode cX5_advance 0 = .ok (.iconst 1, 1) := by decide +kernel
theorem dX5_advance_1 : decode cX5_advance 1 = .ok (.istore_n 2, 1) := by decide +kernel
theorem dX5_advance_2 : decode cX5_advance 2 = .ok (.iconst 0, 1) := by decide +kernel
theorem dX5_advance_3 : decode cX5_advance 3 = .ok (.istore_n 3, 1) := by decide +kernel
theorem dX5_advance_4 : decode cX5_advance 4 = .ok (.iload_n 3, 1) := by decide +kernel
theorem dX5_advance_5 : decode cX5_advance 5 = .ok (.ldc 94, 2) := by decide +kernel
theorem dX5_advance_7 : decode cX5_advance 7 = .ok (.if_icmp .ge 115, 3) := by decide +kernel
theorem dX5_advance_10 : decode cX5_advance 10 = .ok (.iload_n 2, 1) := by decide +kernel
theorem dX5_advance_11 : decode cX5_advance 11 = .ok (.ifCond .eq 111, 3) := by decide +kernel
theorem dX5_advance_14 : decode cX5_advance 14 = .ok (.aload_n 0, 1) := by decide +kernel
theorem dX5_advance_15 : decode cX5_advance 15 = .ok (.getfield 38, 3) := by decide +kernel
theorem dX5_advance_18 : decode cX5_advance 18 = .ok (.iload_n 1, 1) := by decide +kernel
theorem dX5_advance_19 : decode cX5_advance 19 = .ok (.if_icmp .ge 7, 3) := by decide +kernel
theorem dX5_advance_22 : decode cX5_advance 22 = .ok (.iconst 1, 1) := by decide +kernel
theorem dX5_advance_23 : decode cX5_advance 23 = .ok (.goto 4, 3) := by decide +kernel
theorem dX5_advance_26 : decode cX5_advance 26 = .ok (.iconst 0, 1) := by decide +kernel
theorem dX5_advance_27 : decode cX5_advance 27 = .ok (.istore 4, 2) := by decide +kernel
theorem dX5_advance_29 : decode cX5_advance 29 = .ok (.aload_n 0, 1) := by decide +kernel
theorem dX5_advance_30 : decode cX5_advance 30 = .ok (.getfield 91, 3) := by decide +kernel
theorem dX5_advance_33 : decode cX5_advance 33 = .ok (.ifCond .eq 8, 3) := by decide +kernel
theorem dX5_advance_36 : decode cX5_advance 36 = .ok (.iconst 0, 1) := by decide +kernel
theorem dX5_advance_37 : decode cX5_advance 37 = .ok (.istore_n 2, 1) := by decide +kernel
theorem dX5_advance_38 : decode cX5_advance 38 = .ok (.goto 78, 3) := by decide +kernel
theorem dX5_advance_41 : decode cX5_advance 41 = .ok (.aload_n 0, 1) := by decide +kernel
theorem dX5_advance_42 : decode cX5_advance 42 = .ok (.getfield 82, 3) := by decide +kernel
theorem dX5_advance_45 : decode cX5_advance 45 = .ok (.iconst (-1), 1) := by decide +kernel
theorem dX5_advance_46 : decode cX5_advance 46 = .ok (.if_icmp .eq 15, 3) := by decide +kernel
theorem dX5_advance_49 : decode cX5_advance 49 = .ok (.iload 4, 2) := by decide +kernel
theorem dX5_advance_51 : decode cX5_advance 51 = .ok (.istore_n 2, 1) := by decide +kernel
theorem dX5_advance_52 : decode cX5_advance 52 = .ok (.aload_n 0, 1) := by decide +kernel
theorem dX5_advance_53 : decode cX5_advance 53 = .ok (.iload 4, 2) := by decide +kernel
theorem dX5_advance_55 : decode cX5_advance 55 = .ok (.invokevirtual 95, 3) := by decide +kernel
theorem dX5_advance_58 : decode cX5_advance 58 = .ok (.goto 58, 3) := by decide +kernel
theorem dX5_advance_61 : decode cX5_advance 61 = .ok (.aload_n 0, 1) := by decide +kernel
theorem dX5_advance_62 : decode cX5_advance 62 = .ok (.getfield 79, 3) := by decide +kernel
theorem dX5_advance_65 : decode cX5_advance 65 = .ok (.ifCond .eq 14, 3) := by decide +kernel
theorem dX5_advance_68 : decode cX5_advance 68 = .ok (.aload_n 0, 1) := by decide +kernel
theorem dX5_advance_69 : decode cX5_advance 69 = .ok (.iload 4, 2) := by decide +kernel
theorem dX5_advance_71 : decode cX5_advance 71 = .ok (.putfield 91, 3) := by decide +kernel
theorem dX5_advance_74 : decode cX5_advance 74 = .ok (.iconst 0, 1) := by decide +kernel
theorem dX5_advance_75 : decode cX5_advance 75 = .ok (.istore_n 2, 1) := by decide +kernel
theorem dX5_advance_76 : decode cX5_advance 76 = .ok (.goto 40, 3) := by decide +kernel
theorem dX5_advance_79 : decode cX5_advance 79 = .ok (.aload_n 0, 1) := by decide +kernel
theorem dX5_advance_80 : decode cX5_advance 80 = .ok (.getfield 56, 3) := by decide +kernel
theorem dX5_advance_83 : decode cX5_advance 83 = .ok (.ifCond .eq 15, 3) := by decide +kernel
theorem dX5_advance_86 : decode cX5_advance 86 = .ok (.iload 4, 2) := by decide +kernel
theorem dX5_advance_88 : decode cX5_advance 88 = .ok (.istore_n 2, 1) := by decide +kernel
theorem dX5_advance_89 : decode cX5_advance 89 = .ok (.aload_n 0, 1) := by decide +kernel
theorem dX5_advance_90 : decode cX5_advance 90 = .ok (.iload 4, 2) := by decide +kernel
theorem dX5_advance_92 : decode cX5_advance 92 = .ok (.invokevirtual 99, 3) := by decide +kernel
theorem dX5_advance_95 : decode cX5_advance 95 = .ok (.goto 21, 3) := by decide +kernel
theorem dX5_advance_98 : decode cX5_advance 98 = .ok (.aload_n 0, 1) := by decide +kernel
theorem dX5_advance_99 : decode cX5_advance 99 = .ok (.getfield 76, 3) := by decide +kernel
theorem dX5_advance_102 : decode cX5_advance 102 = .ok (.ifCond .eq 10, 3) := by decide +kernel
theorem dX5_advance_105 : decode cX5_advance 105 = .ok (.aload_n 0, 1) := by decide +kernel
theorem dX5_advance_106 : decode cX5_advance 106 = .ok (.invokevirtual 102, 3) := by decide +kernel
theorem dX5_advance_109 : decode cX5_advance 109 = .ok (.goto 7, 3) := by decide +kernel
theorem dX5_advance_112 : decode cX5_advance 112 = .ok (.aload_n 0, 1) := by decide +kernel
theorem dX5_advance_113 : decode cX5_advance 113 = .ok (.invokevirtual 105, 3) := by decide +kernel
theorem dX5_advance_116 : decode cX5_advance 116 = .ok (.iinc 3 1, 3) := by decide +kernel
theorem dX5_advance_119 : decode cX5_advance 119 = .ok (.goto (-115), 3) := by decide +kernel
theorem dX5_advance_122 : decode cX5_advance 122 = .ok (.return_, 1) := by decide +kernel
theorem dX5_takeWanted_0 : decode cX5_takeWanted 0 = .ok (.iload_n 1, 1) := by decide +kernel
theorem dX5_takeWanted_1 : decode cX5_takeWanted 1 = .ok (.ifCond .ne 4, 3) := by decide +kernel
theorem dX5_takeWanted_4 : decode cX5_takeWanted 4 = .ok (.return_, 1) := by decide +kernel
theorem dX5_takeWanted_5 : decode cX5_takeWanted 5 = .ok (.aload_n 0, 1) := by decide +kernel
theorem dX5_takeWanted_6 : decode cX5_takeWanted 6 = .ok (.getfield 29, 3) := by decide +kernel
theorem dX5_takeWanted_9 : decode cX5_takeWanted 9 = .ok (.aload_n 0, 1) := by decide +kernel
theorem dX5_takeWanted_10 : decode cX5_takeWanted 10 = .ok (.getfield 38, 3) := by decide +kernel
theorem dX5_takeWanted_13 : decode cX5_takeWanted 13 = .ok (.invokevirtual 118, 3) := by decide +kernel
theorem dX5_takeWanted_16 : decode cX5_takeWanted 16 = .ok (.istore_n 2, 1) := by decide +kernel
theorem dX5_takeWanted_17 : decode cX5_takeWanted 17 = .ok (.aload_n 0, 1) := by decide +kernel
theorem dX5_takeWanted_18 : decode cX5_takeWanted 18 = .ok (.getfield 29, 3) := by decide +kernel
theorem dX5_takeWanted_21 : decode cX5_takeWanted 21 = .ok (.aload_n 0, 1) := by decide +kernel
theorem dX5_takeWanted_22 : decode cX5_takeWanted 22 = .ok (.getfield 38, 3) := by decide +kernel
theorem dX5_takeWanted_25 : decode cX5_takeWanted 25 = .ok (.invokevirtual 44, 3) := by decide +kernel
theorem dX5_takeWanted_28 : decode cX5_takeWanted 28 = .ok (.lstore_n 3, 1) := by decide +kernel
theorem dX5_takeWanted_29 : decode cX5_takeWanted 29 = .ok (.iload_n 2, 1) := by decide +kernel
theorem dX5_takeWanted_30 : decode cX5_takeWanted 30 = .ok (.iconst 4, 1) := by decide +kernel
theorem dX5_takeWanted_31 : decode cX5_takeWanted 31 = .ok (.if_icmp .eq 21, 3) := by decide +kernel
theorem dX5_takeWanted_34 : decode cX5_takeWanted 34 = .ok (.iload_n 2, 1) := by decide +kernel
theorem dX5_takeWanted_35 : decode cX5_takeWanted 35 = .ok (.bipush 7, 2) := by decide +kernel
theorem dX5_takeWanted_37 : decode cX5_takeWanted 37 = .ok (.if_icmp .eq 15, 3) := by decide +kernel
theorem dX5_takeWanted_40 : decode cX5_takeWanted 40 = .ok (.iload_n 2, 1) := by decide +kernel
theorem dX5_takeWanted_41 : decode cX5_takeWanted 41 = .ok (.bipush 9, 2) := by decide +kernel
theorem dX5_takeWanted_43 : decode cX5_takeWanted 43 = .ok (.if_icmp .eq 9, 3) := by decide +kernel
theorem dX5_takeWanted_46 : decode cX5_takeWanted 46 = .ok (.iload_n 2, 1) := by decide +kernel
theorem dX5_takeWanted_47 : decode cX5_takeWanted 47 = .ok (.bipush 14, 2) := by decide +kernel
theorem dX5_takeWanted_49 : decode cX5_takeWanted 49 = .ok (.if_icmp .ne 7, 3) := by decide +kernel
theorem dX5_takeWanted_52 : decode cX5_takeWanted 52 = .ok (.iconst 1, 1) := by decide +kernel
theorem dX5_takeWanted_53 : decode cX5_takeWanted 53 = .ok (.goto 4, 3) := by decide +kernel
theorem dX5_takeWanted_56 : decode cX5_takeWanted 56 = .ok (.iconst 0, 1) := by decide +kernel
theorem dX5_takeWanted_57 : decode cX5_takeWanted 57 = .ok (.istore 5, 2) := by decide +kernel
theorem dX5_takeWanted_59 : decode cX5_takeWanted 59 = .ok (.iload_n 2, 1) := by decide +kernel
theorem dX5_takeWanted_60 : decode cX5_takeWanted 60 = .ok (.aload_n 0, 1) := by decide +kernel
theorem dX5_takeWanted_61 : decode cX5_takeWanted 61 = .ok (.getfield 82, 3) := by decide +kernel
theorem dX5_takeWanted_64 : decode cX5_takeWanted 64 = .ok (.if_icmp .ne 66, 3) := by decide +kernel
theorem dX5_takeWanted_67 : decode cX5_takeWanted 67 = .ok (.iload 5, 2) := by decide +kernel
theorem dX5_takeWanted_69 : decode cX5_takeWanted 69 = .ok (.ifCond .ne 12, 3) := by decide +kernel
theorem dX5_takeWanted_72 : decode cX5_takeWanted 72 = .ok (.lload_n 3, 1) := by decide +kernel
theorem dX5_takeWanted_73 : decode cX5_takeWanted 73 = .ok (.aload_n 0, 1) := by decide +kernel
theorem dX5_takeWanted_74 : decode cX5_takeWanted 74 = .ok (.getfield 85, 3) := by decide +kernel
theorem dX5_takeWanted_77 : decode cX5_takeWanted 77 = .ok (.lcmp, 1) := by decide +kernel
theorem dX5_takeWanted_78 : decode cX5_takeWanted 78 = .ok (.ifCond .ne 52, 3) := by decide +kernel
theorem dX5_takeWanted_81 : decode cX5_takeWanted 81 = .ok (.aload_n 0, 1) := by decide +kernel
theorem dX5_takeWanted_82 : decode cX5_takeWanted 82 = .ok (.iconst (-1), 1) := by decide +kernel
theorem dX5_takeWanted_83 : decode cX5_takeWanted 83 = .ok (.putfield 82, 3) := by decide +kernel
theorem dX5_takeWanted_86 : decode cX5_takeWanted 86 = .ok (.aload_n 0, 1) := by decide +kernel
theorem dX5_takeWanted_87 : decode cX5_takeWanted 87 = .ok (.dup, 1) := by decide +kernel
theorem dX5_takeWanted_88 : decode cX5_takeWanted 88 = .ok (.getfield 38, 3) := by decide +kernel
theorem dX5_takeWanted_91 : decode cX5_takeWanted 91 = .ok (.iconst 1, 1) := by decide +kernel
theorem dX5_takeWanted_92 : decode cX5_takeWanted 92 = .ok (.iadd, 1) := by decide +kernel
theorem dX5_takeWanted_93 : decode cX5_takeWanted 93 = .ok (.putfield 38, 3) := by decide +kernel
theorem dX5_takeWanted_96 : decode cX5_takeWanted 96 = .ok (.lload_n 3, 1) := by decide +kernel
theorem dX5_takeWanted_97 : decode cX5_takeWanted 97 = .ok (.lconst 0, 1) := by decide +kernel
theorem dX5_takeWanted_98 : decode cX5_takeWanted 98 = .ok (.lcmp, 1) := by decide +kernel
theorem dX5_takeWanted_99 : decode cX5_takeWanted 99 = .ok (.ifCond .ge 22, 3) := by decide +kernel
theorem dX5_takeWanted_102 : decode cX5_takeWanted 102 = .ok (.iload_n 2, 1) := by decide +kernel
theorem dX5_takeWanted_103 : decode cX5_takeWanted 103 = .ok (.bipush 7, 2) := by decide +kernel
theorem dX5_takeWanted_105 : decode cX5_takeWanted 105 = .ok (.if_icmp .eq 9, 3) := by decide +kernel
theorem dX5_takeWanted_108 : decode cX5_takeWanted 108 = .ok (.iload_n 2, 1) := by decide +kernel
theorem dX5_takeWanted_109 : decode cX5_takeWanted 109 = .ok (.bipush 14, 2) := by decide +kernel
theorem dX5_takeWanted_111 : decode cX5_takeWanted 111 = .ok (.if_icmp .ne 10, 3) := by decide +kernel
theorem dX5_takeWanted_114 : decode cX5_takeWanted 114 = .ok (.aload_n 0, 1) := by decide +kernel
theorem dX5_takeWanted_115 : decode cX5_takeWanted 115 = .ok (.invokevirtual 122, 3) := by decide +kernel
theorem dX5_takeWanted_118 : decode cX5_takeWanted 118 = .ok (.goto 39, 3) := by decide +kernel
theorem dX5_takeWanted_121 : decode cX5_takeWanted 121 = .ok (.aload_n 0, 1) := by decide +kernel
theorem dX5_takeWanted_122 : decode cX5_takeWanted 122 = .ok (.iload_n 2, 1) := by decide +kernel
theorem dX5_takeWanted_123 : decode cX5_takeWanted 123 = .ok (.lload_n 3, 1) := by decide +kernel
theorem dX5_takeWanted_124 : decode cX5_takeWanted 124 = .ok (.invokevirtual 125, 3) := by decide +kernel
theorem dX5_takeWanted_127 : decode cX5_takeWanted 127 = .ok (.goto 30, 3) := by decide +kernel
theorem dX5_takeWanted_130 : decode cX5_takeWanted 130 = .ok (.aload_n 0, 1) := by decide +kernel
theorem dX5_takeWanted_131 : decode cX5_takeWanted 131 = .ok (.getfield 82, 3) := by decide +kernel
theorem dX5_takeWanted_134 : decode cX5_takeWanted 134 = .ok (.bipush 10, 2) := by decide +kernel
theorem dX5_takeWanted_136 : decode cX5_takeWanted 136 = .ok (.if_icmp .ne 16, 3) := by decide +kernel
theorem dX5_takeWanted_139 : decode cX5_takeWanted 139 = .ok (.aload_n 0, 1) := by decide +kernel
theorem dX5_takeWanted_140 : decode cX5_takeWanted 140 = .ok (.iconst (-1), 1) := by decide +kernel
theorem dX5_takeWanted_141 : decode cX5_takeWanted 141 = .ok (.putfield 82, 3) := by decide +kernel
theorem dX5_takeWanted_144 : decode cX5_takeWanted 144 = .ok (.aload_n 0, 1) := by decide +kernel
theorem dX5_takeWanted_145 : decode cX5_takeWanted 145 = .ok (.iconst 0, 1) := by decide +kernel
theorem dX5_takeWanted_146 : decode cX5_takeWanted 146 = .ok (.putfield 50, 3) := by decide +kernel
theorem dX5_takeWanted_149 : decode cX5_takeWanted 149 = .ok (.goto 8, 3) := by decide +kernel
theorem dX5_takeWanted_152 : decode cX5_takeWanted 152 = .ok (.aload_n 0, 1) := by decide +kernel
theorem dX5_takeWanted_153 : decode cX5_takeWanted 153 = .ok (.iconst 1, 1) := by decide +kernel
theorem dX5_takeWanted_154 : decode cX5_takeWanted 154 = .ok (.putfield 91, 3) := by decide +kernel
theorem dX5_takeWanted_157 : decode cX5_takeWanted 157 = .ok (.return_, 1) := by decide +kernel
theorem dX5_failNow_0 : decode cX5_failNow 0 = .ok (.aload_n 0, 1) := by decide +kernel
theorem dX5_failNow_1 : decode cX5_failNow 1 = .ok (.iconst 0, 1) := by decide +kernel
theorem dX5_failNow_2 : decode cX5_failNow 2 = .ok (.putfield 56, 3) := by decide +kernel
theorem dX5_failNow_5 : decode cX5_failNow 5 = .ok (.aload_n 0, 1) := by decide +kernel
theorem dX5_failNow_6 : decode cX5_failNow 6 = .ok (.iconst 2, 1) := by decide +kernel
theorem dX5_failNow_7 : decode cX5_failNow 7 = .ok (.putfield 76, 3) := by decide +kernel
theorem dX5_failNow_10 : decode cX5_failNow 10 = .ok (.return_, 1) := by decide +kernel
theorem dX5_follow_0 : decode cX5_follow 0 = .ok (.iload_n 1, 1) := by decide +kernel
theorem dX5_follow_1 : decode cX5_follow 1 = .ok (.tableswitch 186 1 14 #[71, 186, 186, 88, 186, 186, 113, 186, 169, 178, 79, 186, 186, 127], 71) := by decide +kernel
theorem dX5_follow_72 : decode cX5_follow 72 = .ok (.aload_n 0, 1) := by decide +kernel
theorem dX5_follow_73 : decode cX5_follow 73 = .ok (.iconst 1, 1) := by decide +kernel
theorem dX5_follow_74 : decode cX5_follow 74 = .ok (.putfield 56, 3) := by decide +kernel
theorem dX5_follow_77 : decode cX5_follow 77 = .ok (.goto 115, 3) := by decide +kernel
theorem dX5_follow_80 : decode cX5_follow 80 = .ok (.aload_n 0, 1) := by decide +kernel
theorem dX5_follow_81 : decode cX5_follow 81 = .ok (.bipush 6, 2) := by decide +kernel
theorem dX5_follow_83 : decode cX5_follow 83 = .ok (.putfield 56, 3) := by decide +kernel
theorem dX5_follow_86 : decode cX5_follow 86 = .ok (.goto 106, 3) := by decide +kernel
theorem dX5_follow_89 : decode cX5_follow 89 = .ok (.aload_n 0, 1) := by decide +kernel
theorem dX5_follow_90 : decode cX5_follow 90 = .ok (.lload_n 2, 1) := by decide +kernel
theorem dX5_follow_91 : decode cX5_follow 91 = .ok (.putfield 65, 3) := by decide +kernel
theorem dX5_follow_94 : decode cX5_follow 94 = .ok (.aload_n 0, 1) := by decide +kernel
theorem dX5_follow_95 : decode cX5_follow 95 = .ok (.aload_n 0, 1) := by decide +kernel
theorem dX5_follow_96 : decode cX5_follow 96 = .ok (.getfield 59, 3) := by decide +kernel
theorem dX5_follow_99 : decode cX5_follow 99 = .ok (.iconst (-1), 1) := by decide +kernel
theorem dX5_follow_100 : decode cX5_follow 100 = .ok (.if_icmp .ne 7, 3) := by decide +kernel
theorem dX5_follow_103 : decode cX5_follow 103 = .ok (.iconst 2, 1) := by decide +kernel
theorem dX5_follow_104 : decode cX5_follow 104 = .ok (.goto 4, 3) := by decide +kernel
theorem dX5_follow_107 : decode cX5_follow 107 = .ok (.iconst 4, 1) := by decide +kernel
theorem dX5_follow_108 : decode cX5_follow 108 = .ok (.putfield 56, 3) := by decide +kernel
theorem dX5_follow_111 : decode cX5_follow 111 = .ok (.goto 81, 3) := by decide +kernel
theorem dX5_follow_114 : decode cX5_follow 114 = .ok (.aload_n 0, 1) := by decide +kernel
theorem dX5_follow_115 : decode cX5_follow 115 = .ok (.iconst 5, 1) := by decide +kernel
theorem dX5_follow_116 : decode cX5_follow 116 = .ok (.putfield 56, 3) := by decide +kernel
theorem dX5_follow_119 : decode cX5_follow 119 = .ok (.aload_n 0, 1) := by decide +kernel
theorem dX5_follow_120 : decode cX5_follow 120 = .ok (.lload_n 2, 1) := by decide +kernel
theorem dX5_follow_121 : decode cX5_follow 121 = .ok (.l2i, 1) := by decide +kernel
theorem dX5_follow_122 : decode cX5_follow 122 = .ok (.putfield 62, 3) := by decide +kernel
theorem dX5_follow_125 : decode cX5_follow 125 = .ok (.goto 67, 3) := by decide +kernel
theorem dX5_follow_128 : decode cX5_follow 128 = .ok (.aload_n 0, 1) := by decide +kernel
theorem dX5_follow_129 : decode cX5_follow 129 = .ok (.getfield 85, 3) := by decide +kernel
theorem dX5_follow_132 : decode cX5_follow 132 = .ok (.ldc2_w 128, 3) := by decide +kernel
theorem dX5_follow_135 : decode cX5_follow 135 = .ok (.lcmp, 1) := by decide +kernel
theorem dX5_follow_136 : decode cX5_follow 136 = .ok (.ifCond .ne 25, 3) := by decide +kernel
theorem dX5_follow_139 : decode cX5_follow 139 = .ok (.aload_n 0, 1) := by decide +kernel
theorem dX5_follow_140 : decode cX5_follow 140 = .ok (.bipush 13, 2) := by decide +kernel
theorem dX5_follow_142 : decode cX5_follow 142 = .ok (.ldc2_w 112, 3) := by decide +kernel
theorem dX5_follow_145 : decode cX5_follow 145 = .ok (.aload_n 0, 1) := by decide +kernel
theorem dX5_follow_146 : decode cX5_follow 146 = .ok (.getfield 50, 3) := by decide +kernel
theorem dX5_follow_149 : decode cX5_follow 149 = .ok (.i2l, 1) := by decide +kernel
theorem dX5_follow_150 : decode cX5_follow 150 = .ok (.lmul, 1) := by decide +kernel
theorem dX5_follow_151 : decode cX5_follow 151 = .ok (.ldc2_w 130, 3) := by decide +kernel
theorem dX5_follow_154 : decode cX5_follow 154 = .ok (.ladd, 1) := by decide +kernel
theorem dX5_follow_155 : decode cX5_follow 155 = .ok (.invokevirtual 114, 3) := by decide +kernel
theorem dX5_follow_158 : decode cX5_follow 158 = .ok (.goto 34, 3) := by decide +kernel
theorem dX5_follow_161 : decode cX5_follow 161 = .ok (.aload_n 0, 1) := by decide +kernel
theorem dX5_follow_162 : decode cX5_follow 162 = .ok (.lload_n 2, 1) := by decide +kernel
theorem dX5_follow_163 : decode cX5_follow 163 = .ok (.l2i, 1) := by decide +kernel
theorem dX5_follow_164 : decode cX5_follow 164 = .ok (.putfield 50, 3) := by decide +kernel
theorem dX5_follow_167 : decode cX5_follow 167 = .ok (.goto 25, 3) := by decide +kernel
theorem dX5_follow_170 : decode cX5_follow 170 = .ok (.aload_n 0, 1) := by decide +kernel
theorem dX5_follow_171 : decode cX5_follow 171 = .ok (.lload_n 2, 1) := by decide +kernel
theorem dX5_follow_172 : decode cX5_follow 172 = .ok (.l2i, 1) := by decide +kernel
theorem dX5_follow_173 : decode cX5_follow 173 = .ok (.putfield 50, 3) := by decide +kernel
theorem dX5_follow_176 : decode cX5_follow 176 = .ok (.goto 16, 3) := by decide +kernel
theorem dX5_follow_179 : decode cX5_follow 179 = .ok (.aload_n 0, 1) := by decide +kernel
theorem dX5_follow_180 : decode cX5_follow 180 = .ok (.iconst 1, 1) := by decide +kernel
theorem dX5_follow_181 : decode cX5_follow 181 = .ok (.putfield 50, 3) := by decide +kernel
theorem dX5_follow_184 : decode cX5_follow 184 = .ok (.goto 8, 3) := by decide +kernel
theorem dX5_follow_187 : decode cX5_follow 187 = .ok (.aload_n 0, 1) := by decide +kernel
theorem dX5_follow_188 : decode cX5_follow 188 = .ok (.iconst 1, 1) := by decide +kernel
theorem dX5_follow_189 : decode cX5_follow 189 = .ok (.putfield 79, 3) := by decide +kernel
theorem dX5_follow_192 : decode cX5_follow 192 = .ok (.return_, 1) := by decide +kernel
theorem dX5_want_0 : decode cX5_want 0 = .ok (.aload_n 0, 1) := by decide +kernel
theorem dX5_want_1 : decode cX5_want 1 = .ok (.iload_n 1, 1) := by decide +kernel
theorem dX5_want_2 : decode cX5_want 2 = .ok (.putfield 82, 3) := by decide +kernel
theorem dX5_want_5 : decode cX5_want 5 = .ok (.aload_n 0, 1) := by decide +kernel
theorem dX5_want_6 : decode cX5_want 6 = .ok (.lload_n 2, 1) := by decide +kernel
theorem dX5_want_7 : decode cX5_want 7 = .ok (.putfield 85, 3) := by decide +kernel
theorem dX5_want_10 : decode cX5_want 10 = .ok (.return_, 1) := by decide +kernel
theorem dX5_takeAwaited_0 : decode cX5_takeAwaited 0 = .ok (.iload_n 1, 1) := by decide +kernel
theorem dX5_takeAwaited_1 : decode cX5_takeAwaited 1 = .ok (.ifCond .ne 4, 3) := by decide +kernel
theorem dX5_takeAwaited_4 : decode cX5_takeAwaited 4 = .ok (.return_, 1) := by decide +kernel
theorem dX5_takeAwaited_5 : decode cX5_takeAwaited 5 = .ok (.aload_n 0, 1) := by decide +kernel
theorem dX5_takeAwaited_6 : decode cX5_takeAwaited 6 = .ok (.getfield 29, 3) := by decide +kernel
theorem dX5_takeAwaited_9 : decode cX5_takeAwaited 9 = .ok (.aload_n 0, 1) := by decide +kernel
theorem dX5_takeAwaited_10 : decode cX5_takeAwaited 10 = .ok (.getfield 38, 3) := by decide +kernel
theorem dX5_takeAwaited_13 : decode cX5_takeAwaited 13 = .ok (.invokevirtual 118, 3) := by decide +kernel
theorem dX5_takeAwaited_16 : decode cX5_takeAwaited 16 = .ok (.istore_n 2, 1) := by decide +kernel
theorem dX5_takeAwaited_17 : decode cX5_takeAwaited 17 = .ok (.aload_n 0, 1) := by decide +kernel
theorem dX5_takeAwaited_18 : decode cX5_takeAwaited 18 = .ok (.getfield 29, 3) := by decide +kernel
theorem dX5_takeAwaited_21 : decode cX5_takeAwaited 21 = .ok (.aload_n 0, 1) := by decide +kernel
theorem dX5_takeAwaited_22 : decode cX5_takeAwaited 22 = .ok (.getfield 38, 3) := by decide +kernel
theorem dX5_takeAwaited_25 : decode cX5_takeAwaited 25 = .ok (.invokevirtual 44, 3) := by decide +kernel
theorem dX5_takeAwaited_28 : decode cX5_takeAwaited 28 = .ok (.lstore_n 3, 1) := by decide +kernel
theorem dX5_takeAwaited_29 : decode cX5_takeAwaited 29 = .ok (.aload_n 0, 1) := by decide +kernel
theorem dX5_takeAwaited_30 : decode cX5_takeAwaited 30 = .ok (.dup, 1) := by decide +kernel
theorem dX5_takeAwaited_31 : decode cX5_takeAwaited 31 = .ok (.getfield 38, 3) := by decide +kernel
theorem dX5_takeAwaited_34 : decode cX5_takeAwaited 34 = .ok (.iconst 1, 1) := by decide +kernel
theorem dX5_takeAwaited_35 : decode cX5_takeAwaited 35 = .ok (.iadd, 1) := by decide +kernel
theorem dX5_takeAwaited_36 : decode cX5_takeAwaited 36 = .ok (.putfield 38, 3) := by decide +kernel
theorem dX5_takeAwaited_39 : decode cX5_takeAwaited 39 = .ok (.aload_n 0, 1) := by decide +kernel
theorem dX5_takeAwaited_40 : decode cX5_takeAwaited 40 = .ok (.iconst 0, 1) := by decide +kernel
theorem dX5_takeAwaited_41 : decode cX5_takeAwaited 41 = .ok (.putfield 53, 3) := by decide +kernel
theorem dX5_takeAwaited_44 : decode cX5_takeAwaited 44 = .ok (.iload_n 2, 1) := by decide +kernel
theorem dX5_takeAwaited_45 : decode cX5_takeAwaited 45 = .ok (.bipush 6, 2) := by decide +kernel
theorem dX5_takeAwaited_47 : decode cX5_takeAwaited 47 = .ok (.if_icmp .ne 12, 3) := by decide +kernel
theorem dX5_takeAwaited_50 : decode cX5_takeAwaited 50 = .ok (.aload_n 0, 1) := by decide +kernel
theorem dX5_takeAwaited_51 : decode cX5_takeAwaited 51 = .ok (.lload_n 3, 1) := by decide +kernel
theorem dX5_takeAwaited_52 : decode cX5_takeAwaited 52 = .ok (.l2i, 1) := by decide +kernel
theorem dX5_takeAwaited_53 : decode cX5_takeAwaited 53 = .ok (.invokevirtual 132, 3) := by decide +kernel
theorem dX5_takeAwaited_56 : decode cX5_takeAwaited 56 = .ok (.goto 164, 3) := by decide +kernel
theorem dX5_takeAwaited_59 : decode cX5_takeAwaited 59 = .ok (.iload_n 2, 1) := by decide +kernel
theorem dX5_takeAwaited_60 : decode cX5_takeAwaited 60 = .ok (.bipush 12, 2) := by decide +kernel
theorem dX5_takeAwaited_62 : decode cX5_takeAwaited 62 = .ok (.if_icmp .ne 10, 3) := by decide +kernel
theorem dX5_takeAwaited_65 : decode cX5_takeAwaited 65 = .ok (.aload_n 0, 1) := by decide +kernel
theorem dX5_takeAwaited_66 : decode cX5_takeAwaited 66 = .ok (.invokevirtual 136, 3) := by decide +kernel
theorem dX5_takeAwaited_69 : decode cX5_takeAwaited 69 = .ok (.goto 151, 3) := by decide +kernel
theorem dX5_takeAwaited_72 : decode cX5_takeAwaited 72 = .ok (.iload_n 2, 1) := by decide +kernel
theorem dX5_takeAwaited_73 : decode cX5_takeAwaited 73 = .ok (.iconst 2, 1) := by decide +kernel
theorem dX5_takeAwaited_74 : decode cX5_takeAwaited 74 = .ok (.if_icmp .ne 25, 3) := by decide +kernel
theorem dX5_takeAwaited_77 : decode cX5_takeAwaited 77 = .ok (.aload_n 0, 1) := by decide +kernel
theorem dX5_takeAwaited_78 : decode cX5_takeAwaited 78 = .ok (.getfield 56, 3) := by decide +kernel
theorem dX5_takeAwaited_81 : decode cX5_takeAwaited 81 = .ok (.iconst 1, 1) := by decide +kernel
theorem dX5_takeAwaited_82 : decode cX5_takeAwaited 82 = .ok (.if_icmp .ne 17, 3) := by decide +kernel
theorem dX5_takeAwaited_85 : decode cX5_takeAwaited 85 = .ok (.aload_n 0, 1) := by decide +kernel
theorem dX5_takeAwaited_86 : decode cX5_takeAwaited 86 = .ok (.iconst 0, 1) := by decide +kernel
theorem dX5_takeAwaited_87 : decode cX5_takeAwaited 87 = .ok (.putfield 56, 3) := by decide +kernel
theorem dX5_takeAwaited_90 : decode cX5_takeAwaited 90 = .ok (.aload_n 0, 1) := by decide +kernel
theorem dX5_takeAwaited_91 : decode cX5_takeAwaited 91 = .ok (.lload_n 3, 1) := by decide +kernel
theorem dX5_takeAwaited_92 : decode cX5_takeAwaited 92 = .ok (.l2i, 1) := by decide +kernel
theorem dX5_takeAwaited_93 : decode cX5_takeAwaited 93 = .ok (.putfield 50, 3) := by decide +kernel
theorem dX5_takeAwaited_96 : decode cX5_takeAwaited 96 = .ok (.goto 124, 3) := by decide +kernel
theorem dX5_takeAwaited_99 : decode cX5_takeAwaited 99 = .ok (.iload_n 2, 1) := by decide +kernel
theorem dX5_takeAwaited_100 : decode cX5_takeAwaited 100 = .ok (.iconst 3, 1) := by decide +kernel
theorem dX5_takeAwaited_101 : decode cX5_takeAwaited 101 = .ok (.if_icmp .ne 18, 3) := by decide +kernel
theorem dX5_takeAwaited_104 : decode cX5_takeAwaited 104 = .ok (.aload_n 0, 1) := by decide +kernel
theorem dX5_takeAwaited_105 : decode cX5_takeAwaited 105 = .ok (.getfield 56, 3) := by decide +kernel
theorem dX5_takeAwaited_108 : decode cX5_takeAwaited 108 = .ok (.iconst 1, 1) := by decide +kernel
theorem dX5_takeAwaited_109 : decode cX5_takeAwaited 109 = .ok (.if_icmp .ne 10, 3) := by decide +kernel
theorem dX5_takeAwaited_112 : decode cX5_takeAwaited 112 = .ok (.aload_n 0, 1) := by decide +kernel
theorem dX5_takeAwaited_113 : decode cX5_takeAwaited 113 = .ok (.invokevirtual 122, 3) := by decide +kernel
theorem dX5_takeAwaited_116 : decode cX5_takeAwaited 116 = .ok (.goto 104, 3) := by decide +kernel
theorem dX5_takeAwaited_119 : decode cX5_takeAwaited 119 = .ok (.iload_n 2, 1) := by decide +kernel
theorem dX5_takeAwaited_120 : decode cX5_takeAwaited 120 = .ok (.iconst 2, 1) := by decide +kernel
theorem dX5_takeAwaited_121 : decode cX5_takeAwaited 121 = .ok (.if_icmp .eq 8, 3) := by decide +kernel
theorem dX5_takeAwaited_124 : decode cX5_takeAwaited 124 = .ok (.iload_n 2, 1) := by decide +kernel
theorem dX5_takeAwaited_125 : decode cX5_takeAwaited 125 = .ok (.iconst 3, 1) := by decide +kernel
theorem dX5_takeAwaited_126 : decode cX5_takeAwaited 126 = .ok (.if_icmp .ne 20, 3) := by decide +kernel
theorem dX5_takeAwaited_129 : decode cX5_takeAwaited 129 = .ok (.aload_n 0, 1) := by decide +kernel
theorem dX5_takeAwaited_130 : decode cX5_takeAwaited 130 = .ok (.getfield 56, 3) := by decide +kernel
theorem dX5_takeAwaited_133 : decode cX5_takeAwaited 133 = .ok (.bipush 6, 2) := by decide +kernel
theorem dX5_takeAwaited_135 : decode cX5_takeAwaited 135 = .ok (.if_icmp .ne 11, 3) := by decide +kernel
theorem dX5_takeAwaited_138 : decode cX5_takeAwaited 138 = .ok (.aload_n 0, 1) := by decide +kernel
theorem dX5_takeAwaited_139 : decode cX5_takeAwaited 139 = .ok (.iconst 0, 1) := by decide +kernel
theorem dX5_takeAwaited_140 : decode cX5_takeAwaited 140 = .ok (.putfield 56, 3) := by decide +kernel
theorem dX5_takeAwaited_143 : decode cX5_takeAwaited 143 = .ok (.goto 77, 3) := by decide +kernel
theorem dX5_takeAwaited_146 : decode cX5_takeAwaited 146 = .ok (.iload_n 2, 1) := by decide +kernel
theorem dX5_takeAwaited_147 : decode cX5_takeAwaited 147 = .ok (.iconst 5, 1) := by decide +kernel
theorem dX5_takeAwaited_148 : decode cX5_takeAwaited 148 = .ok (.if_icmp .ne 19, 3) := by decide +kernel
theorem dX5_takeAwaited_151 : decode cX5_takeAwaited 151 = .ok (.aload_n 0, 1) := by decide +kernel
theorem dX5_takeAwaited_152 : decode cX5_takeAwaited 152 = .ok (.getfield 56, 3) := by decide +kernel
theorem dX5_takeAwaited_155 : decode cX5_takeAwaited 155 = .ok (.iconst 2, 1) := by decide +kernel
theorem dX5_takeAwaited_156 : decode cX5_takeAwaited 156 = .ok (.if_icmp .ne 11, 3) := by decide +kernel
theorem dX5_takeAwaited_159 : decode cX5_takeAwaited 159 = .ok (.aload_n 0, 1) := by decide +kernel
theorem dX5_takeAwaited_160 : decode cX5_takeAwaited 160 = .ok (.iconst 0, 1) := by decide +kernel
theorem dX5_takeAwaited_161 : decode cX5_takeAwaited 161 = .ok (.putfield 56, 3) := by decide +kernel
theorem dX5_takeAwaited_164 : decode cX5_takeAwaited 164 = .ok (.goto 56, 3) := by decide +kernel
theorem dX5_takeAwaited_167 : decode cX5_takeAwaited 167 = .ok (.iload_n 2, 1) := by decide +kernel
theorem dX5_takeAwaited_168 : decode cX5_takeAwaited 168 = .ok (.iconst 5, 1) := by decide +kernel
theorem dX5_takeAwaited_169 : decode cX5_takeAwaited 169 = .ok (.if_icmp .ne 24, 3) := by decide +kernel
theorem dX5_takeAwaited_172 : decode cX5_takeAwaited 172 = .ok (.aload_n 0, 1) := by decide +kernel
theorem dX5_takeAwaited_173 : decode cX5_takeAwaited 173 = .ok (.getfield 56, 3) := by decide +kernel
theorem dX5_takeAwaited_176 : decode cX5_takeAwaited 176 = .ok (.iconst 4, 1) := by decide +kernel
theorem dX5_takeAwaited_177 : decode cX5_takeAwaited 177 = .ok (.if_icmp .ne 16, 3) := by decide +kernel
theorem dX5_takeAwaited_180 : decode cX5_takeAwaited 180 = .ok (.aload_n 0, 1) := by decide +kernel
theorem dX5_takeAwaited_181 : decode cX5_takeAwaited 181 = .ok (.iconst 0, 1) := by decide +kernel
theorem dX5_takeAwaited_182 : decode cX5_takeAwaited 182 = .ok (.putfield 56, 3) := by decide +kernel
theorem dX5_takeAwaited_185 : decode cX5_takeAwaited 185 = .ok (.aload_n 0, 1) := by decide +kernel
theorem dX5_takeAwaited_186 : decode cX5_takeAwaited 186 = .ok (.iconst 0, 1) := by decide +kernel
theorem dX5_takeAwaited_187 : decode cX5_takeAwaited 187 = .ok (.putfield 50, 3) := by decide +kernel
theorem dX5_takeAwaited_190 : decode cX5_takeAwaited 190 = .ok (.goto 30, 3) := by decide +kernel
theorem dX5_takeAwaited_193 : decode cX5_takeAwaited 193 = .ok (.iload_n 2, 1) := by decide +kernel
theorem dX5_takeAwaited_194 : decode cX5_takeAwaited 194 = .ok (.bipush 8, 2) := by decide +kernel
theorem dX5_takeAwaited_196 : decode cX5_takeAwaited 196 = .ok (.if_icmp .ne 19, 3) := by decide +kernel
theorem dX5_takeAwaited_199 : decode cX5_takeAwaited 199 = .ok (.aload_n 0, 1) := by decide +kernel
theorem dX5_takeAwaited_200 : decode cX5_takeAwaited 200 = .ok (.getfield 56, 3) := by decide +kernel
theorem dX5_takeAwaited_203 : decode cX5_takeAwaited 203 = .ok (.iconst 5, 1) := by decide +kernel
theorem dX5_takeAwaited_204 : decode cX5_takeAwaited 204 = .ok (.if_icmp .ne 11, 3) := by decide +kernel
theorem dX5_takeAwaited_207 : decode cX5_takeAwaited 207 = .ok (.aload_n 0, 1) := by decide +kernel
theorem dX5_takeAwaited_208 : decode cX5_takeAwaited 208 = .ok (.lload_n 3, 1) := by decide +kernel
theorem dX5_takeAwaited_209 : decode cX5_takeAwaited 209 = .ok (.invokevirtual 139, 3) := by decide +kernel
theorem dX5_takeAwaited_212 : decode cX5_takeAwaited 212 = .ok (.goto 8, 3) := by decide +kernel
theorem dX5_takeAwaited_215 : decode cX5_takeAwaited 215 = .ok (.aload_n 0, 1) := by decide +kernel
theorem dX5_takeAwaited_216 : decode cX5_takeAwaited 216 = .ok (.iconst 1, 1) := by decide +kernel
theorem dX5_takeAwaited_217 : decode cX5_takeAwaited 217 = .ok (.putfield 91, 3) := by decide +kernel
theorem dX5_takeAwaited_220 : decode cX5_takeAwaited 220 = .ok (.return_, 1) := by decide +kernel
theorem dX5_receive_0 : decode cX5_receive 0 = .ok (.aload_n 0, 1) := by decide +kernel
theorem dX5_receive_1 : decode cX5_receive 1 = .ok (.getfield 56, 3) := by decide +kernel
theorem dX5_receive_4 : decode cX5_receive 4 = .ok (.iconst 3, 1) := by decide +kernel
theorem dX5_receive_5 : decode cX5_receive 5 = .ok (.if_icmp .eq 11, 3) := by decide +kernel
theorem dX5_receive_8 : decode cX5_receive 8 = .ok (.aload_n 0, 1) := by decide +kernel
theorem dX5_receive_9 : decode cX5_receive 9 = .ok (.getfield 56, 3) := by decide +kernel
theorem dX5_receive_12 : decode cX5_receive 12 = .ok (.iconst 4, 1) := by decide +kernel
theorem dX5_receive_13 : decode cX5_receive 13 = .ok (.if_icmp .ne 18, 3) := by decide +kernel
theorem dX5_receive_16 : decode cX5_receive 16 = .ok (.iload_n 1, 1) := by decide +kernel
theorem dX5_receive_17 : decode cX5_receive 17 = .ok (.bipush 100, 2) := by decide +kernel
theorem dX5_receive_19 : decode cX5_receive 19 = .ok (.idiv, 1) := by decide +kernel
theorem dX5_receive_20 : decode cX5_receive 20 = .ok (.aload_n 0, 1) := by decide +kernel
theorem dX5_receive_21 : decode cX5_receive 21 = .ok (.getfield 59, 3) := by decide +kernel
theorem dX5_receive_24 : decode cX5_receive 24 = .ok (.if_icmp .ne 7, 3) := by decide +kernel
theorem dX5_receive_27 : decode cX5_receive 27 = .ok (.iconst 1, 1) := by decide +kernel
theorem dX5_receive_28 : decode cX5_receive 28 = .ok (.goto 4, 3) := by decide +kernel
theorem dX5_receive_31 : decode cX5_receive 31 = .ok (.iconst 0, 1) := by decide +kernel
theorem dX5_receive_32 : decode cX5_receive 32 = .ok (.istore_n 2, 1) := by decide +kernel
theorem dX5_receive_33 : decode cX5_receive 33 = .ok (.iload_n 2, 1) := by decide +kernel
theorem dX5_receive_34 : decode cX5_receive 34 = .ok (.ifCond .ne 12, 3) := by decide +kernel
theorem dX5_receive_37 : decode cX5_receive 37 = .ok (.aload_n 0, 1) := by decide +kernel
theorem dX5_receive_38 : decode cX5_receive 38 = .ok (.getfield 21, 3) := by decide +kernel
theorem dX5_receive_41 : decode cX5_receive 41 = .ok (.iload_n 1, 1) := by decide +kernel
theorem dX5_receive_42 : decode cX5_receive 42 = .ok (.invokevirtual 143, 3) := by decide +kernel
theorem dX5_receive_45 : decode cX5_receive 45 = .ok (.return_, 1) := by decide +kernel
theorem dX5_receive_46 : decode cX5_receive 46 = .ok (.aload_n 0, 1) := by decide +kernel
theorem dX5_receive_47 : decode cX5_receive 47 = .ok (.aload_n 0, 1) := by decide +kernel
theorem dX5_receive_48 : decode cX5_receive 48 = .ok (.getfield 56, 3) := by decide +kernel
theorem dX5_receive_51 : decode cX5_receive 51 = .ok (.iconst 4, 1) := by decide +kernel
theorem dX5_receive_52 : decode cX5_receive 52 = .ok (.if_icmp .ne 7, 3) := by decide +kernel
theorem dX5_receive_55 : decode cX5_receive 55 = .ok (.iconst 1, 1) := by decide +kernel
theorem dX5_receive_56 : decode cX5_receive 56 = .ok (.goto 7, 3) := by decide +kernel
theorem dX5_receive_59 : decode cX5_receive 59 = .ok (.iload_n 1, 1) := by decide +kernel
theorem dX5_receive_60 : decode cX5_receive 60 = .ok (.bipush 100, 2) := by decide +kernel
theorem dX5_receive_62 : decode cX5_receive 62 = .ok (.irem, 1) := by decide +kernel
theorem dX5_receive_63 : decode cX5_receive 63 = .ok (.putfield 50, 3) := by decide +kernel
theorem dX5_receive_66 : decode cX5_receive 66 = .ok (.aload_n 0, 1) := by decide +kernel
theorem dX5_receive_67 : decode cX5_receive 67 = .ok (.iconst 0, 1) := by decide +kernel
theorem dX5_receive_68 : decode cX5_receive 68 = .ok (.putfield 56, 3) := by decide +kernel
theorem dX5_receive_71 : decode cX5_receive 71 = .ok (.return_, 1) := by decide +kernel
theorem dX6_keep_0 : decode cX6_keep 0 = .ok (.aload_n 0, 1) := by decide +kernel
theorem dX6_keep_1 : decode cX6_keep 1 = .ok (.getfield 15, 3) := by decide +kernel
theorem dX6_keep_4 : decode cX6_keep 4 = .ok (.ifCond .lt 35, 3) := by decide +kernel
theorem dX6_keep_7 : decode cX6_keep 7 = .ok (.aload_n 0, 1) := by decide +kernel
theorem dX6_keep_8 : decode cX6_keep 8 = .ok (.getfield 15, 3) := by decide +kernel
theorem dX6_keep_11 : decode cX6_keep 11 = .ok (.aload_n 0, 1) := by decide +kernel
theorem dX6_keep_12 : decode cX6_keep 12 = .ok (.getfield 9, 3) := by decide +kernel
theorem dX6_keep_15 : decode cX6_keep 15 = .ok (.arraylength, 1) := by decide +kernel
theorem dX6_keep_16 : decode cX6_keep 16 = .ok (.if_icmp .ge 23, 3) := by decide +kernel
theorem dX6_keep_19 : decode cX6_keep 19 = .ok (.aload_n 0, 1) := by decide +kernel
theorem dX6_keep_20 : decode cX6_keep 20 = .ok (.getfield 9, 3) := by decide +kernel
theorem dX6_keep_23 : decode cX6_keep 23 = .ok (.aload_n 0, 1) := by decide +kernel
theorem dX6_keep_24 : decode cX6_keep 24 = .ok (.getfield 15, 3) := by decide +kernel
theorem dX6_keep_27 : decode cX6_keep 27 = .ok (.iload_n 1, 1) := by decide +kernel
theorem dX6_keep_28 : decode cX6_keep 28 = .ok (.iastore, 1) := by decide +kernel
theorem dX6_keep_29 : decode cX6_keep 29 = .ok (.aload_n 0, 1) := by decide +kernel
theorem dX6_keep_30 : decode cX6_keep 30 = .ok (.dup, 1) := by decide +kernel
theorem dX6_keep_31 : decode cX6_keep 31 = .ok (.getfield 15, 3) := by decide +kernel
theorem dX6_keep_34 : decode cX6_keep 34 = .ok (.iconst 1, 1) := by decide +kernel
theorem dX6_keep_35 : decode cX6_keep 35 = .ok (.iadd, 1) := by decide +kernel
theorem dX6_keep_36 : decode cX6_keep 36 = .ok (.putfield 15, 3) := by decide +kernel
theorem dX6_keep_39 : decode cX6_keep 39 = .ok (.return_, 1) := by decide +kernel
theorem dX5_beAsked_0 : decode cX5_beAsked 0 = .ok (.aload_n 0, 1) := by decide +kernel
theorem dX5_beAsked_1 : decode cX5_beAsked 1 = .ok (.getfield 76, 3) := by decide +kernel
theorem dX5_beAsked_4 : decode cX5_beAsked 4 = .ok (.ifCond .eq 4, 3) := by decide +kernel
theorem dX5_beAsked_7 : decode cX5_beAsked 7 = .ok (.return_, 1) := by decide +kernel
theorem dX5_beAsked_8 : decode cX5_beAsked 8 = .ok (.aload_n 0, 1) := by decide +kernel
theorem dX5_beAsked_9 : decode cX5_beAsked 9 = .ok (.getfield 69, 3) := by decide +kernel
theorem dX5_beAsked_12 : decode cX5_beAsked 12 = .ok (.ifCond .eq 9, 3) := by decide +kernel
theorem dX5_beAsked_15 : decode cX5_beAsked 15 = .ok (.aload_n 0, 1) := by decide +kernel
theorem dX5_beAsked_16 : decode cX5_beAsked 16 = .ok (.iconst 1, 1) := by decide +kernel
theorem dX5_beAsked_17 : decode cX5_beAsked 17 = .ok (.putfield 73, 3) := by decide +kernel
theorem dX5_beAsked_20 : decode cX5_beAsked 20 = .ok (.return_, 1) := by decide +kernel
theorem dX5_beAsked_21 : decode cX5_beAsked 21 = .ok (.aload_n 0, 1) := by decide +kernel
theorem dX5_beAsked_22 : decode cX5_beAsked 22 = .ok (.getfield 56, 3) := by decide +kernel
theorem dX5_beAsked_25 : decode cX5_beAsked 25 = .ok (.iconst 5, 1) := by decide +kernel
theorem dX5_beAsked_26 : decode cX5_beAsked 26 = .ok (.if_icmp .ne 13, 3) := by decide +kernel
theorem dX5_beAsked_29 : decode cX5_beAsked 29 = .ok (.aload_n 0, 1) := by decide +kernel
theorem dX5_beAsked_30 : decode cX5_beAsked 30 = .ok (.aload_n 0, 1) := by decide +kernel
theorem dX5_beAsked_31 : decode cX5_beAsked 31 = .ok (.getfield 38, 3) := by decide +kernel
theorem dX5_beAsked_34 : decode cX5_beAsked 34 = .ok (.iconst 1, 1) := by decide +kernel
theorem dX5_beAsked_35 : decode cX5_beAsked 35 = .ok (.isub, 1) := by decide +kernel
theorem dX5_beAsked_36 : decode cX5_beAsked 36 = .ok (.putfield 88, 3) := by decide +kernel
theorem dX5_beAsked_39 : decode cX5_beAsked 39 = .ok (.aload_n 0, 1) := by decide +kernel
theorem dX5_beAsked_40 : decode cX5_beAsked 40 = .ok (.iconst 0, 1) := by decide +kernel
theorem dX5_beAsked_41 : decode cX5_beAsked 41 = .ok (.putfield 56, 3) := by decide +kernel
theorem dX5_beAsked_44 : decode cX5_beAsked 44 = .ok (.aload_n 0, 1) := by decide +kernel
theorem dX5_beAsked_45 : decode cX5_beAsked 45 = .ok (.iconst 3, 1) := by decide +kernel
theorem dX5_beAsked_46 : decode cX5_beAsked 46 = .ok (.putfield 76, 3) := by decide +kernel
theorem dX5_beAsked_49 : decode cX5_beAsked 49 = .ok (.return_, 1) := by decide +kernel
theorem dX5_takeEnded_0 : decode cX5_takeEnded 0 = .ok (.aload_n 0, 1) := by decide +kernel
theorem dX5_takeEnded_1 : decode cX5_takeEnded 1 = .ok (.iconst 0, 1) := by decide +kernel
theorem dX5_takeEnded_2 : decode cX5_takeEnded 2 = .ok (.putfield 56, 3) := by decide +kernel
theorem dX5_takeEnded_5 : decode cX5_takeEnded 5 = .ok (.lload_n 1, 1) := by decide +kernel
theorem dX5_takeEnded_6 : decode cX5_takeEnded 6 = .ok (.ldc2_w 112, 3) := by decide +kernel
theorem dX5_takeEnded_9 : decode cX5_takeEnded 9 = .ok (.invokestatic 146, 3) := by decide +kernel
theorem dX5_takeEnded_12 : decode cX5_takeEnded 12 = .ok (.lconst 1, 1) := by decide +kernel
theorem dX5_takeEnded_13 : decode cX5_takeEnded 13 = .ok (.lcmp, 1) := by decide +kernel
theorem dX5_takeEnded_14 : decode cX5_takeEnded 14 = .ok (.ifCond .ne 18, 3) := by decide +kernel
theorem dX5_takeEnded_17 : decode cX5_takeEnded 17 = .ok (.aload_n 0, 1) := by decide +kernel
theorem dX5_takeEnded_18 : decode cX5_takeEnded 18 = .ok (.lload_n 1, 1) := by decide +kernel
theorem dX5_takeEnded_19 : decode cX5_takeEnded 19 = .ok (.ldc2_w 112, 3) := by decide +kernel
theorem dX5_takeEnded_22 : decode cX5_takeEnded 22 = .ok (.invokestatic 152, 3) := by decide +kernel
theorem dX5_takeEnded_25 : decode cX5_takeEnded 25 = .ok (.l2i, 1) := by decide +kernel
theorem dX5_takeEnded_26 : decode cX5_takeEnded 26 = .ok (.putfield 50, 3) := by decide +kernel
theorem dX5_takeEnded_29 : decode cX5_takeEnded 29 = .ok (.goto 7, 3) := by decide +kernel
theorem dX5_takeEnded_32 : decode cX5_takeEnded 32 = .ok (.aload_n 0, 1) := by decide +kernel
theorem dX5_takeEnded_33 : decode cX5_takeEnded 33 = .ok (.invokevirtual 122, 3) := by decide +kernel
theorem dX5_takeEnded_36 : decode cX5_takeEnded 36 = .ok (.return_, 1) := by decide +kernel
theorem dJ9_floorDiv_f86c9_0 : decode cJ9_floorDiv_f86c9 0 = .ok (.lload_n 0, 1) := by decide +kernel
theorem dJ9_floorDiv_f86c9_1 : decode cJ9_floorDiv_f86c9 1 = .ok (.lload_n 2, 1) := by decide +kernel
theorem dJ9_floorDiv_f86c9_2 : decode cJ9_floorDiv_f86c9 2 = .ok (.ldiv, 1) := by decide +kernel
theorem dJ9_floorDiv_f86c9_3 : decode cJ9_floorDiv_f86c9 3 = .ok (.lstore 4, 2) := by decide +kernel
theorem dJ9_floorDiv_f86c9_5 : decode cJ9_floorDiv_f86c9 5 = .ok (.lload_n 0, 1) := by decide +kernel
theorem dJ9_floorDiv_f86c9_6 : decode cJ9_floorDiv_f86c9 6 = .ok (.lload_n 2, 1) := by decide +kernel
theorem dJ9_floorDiv_f86c9_7 : decode cJ9_floorDiv_f86c9 7 = .ok (.lxor, 1) := by decide +kernel
theorem dJ9_floorDiv_f86c9_8 : decode cJ9_floorDiv_f86c9 8 = .ok (.lconst 0, 1) := by decide +kernel
theorem dJ9_floorDiv_f86c9_9 : decode cJ9_floorDiv_f86c9 9 = .ok (.lcmp, 1) := by decide +kernel
theorem dJ9_floorDiv_f86c9_10 : decode cJ9_floorDiv_f86c9 10 = .ok (.ifCond .ge 17, 3) := by decide +kernel
theorem dJ9_floorDiv_f86c9_13 : decode cJ9_floorDiv_f86c9 13 = .ok (.lload 4, 2) := by decide +kernel
theorem dJ9_floorDiv_f86c9_15 : decode cJ9_floorDiv_f86c9 15 = .ok (.lload_n 2, 1) := by decide +kernel
theorem dJ9_floorDiv_f86c9_16 : decode cJ9_floorDiv_f86c9 16 = .ok (.lmul, 1) := by decide +kernel
theorem dJ9_floorDiv_f86c9_17 : decode cJ9_floorDiv_f86c9 17 = .ok (.lload_n 0, 1) := by decide +kernel
theorem dJ9_floorDiv_f86c9_18 : decode cJ9_floorDiv_f86c9 18 = .ok (.lcmp, 1) := by decide +kernel
theorem dJ9_floorDiv_f86c9_19 : decode cJ9_floorDiv_f86c9 19 = .ok (.ifCond .eq 8, 3) := by decide +kernel
theorem dJ9_floorDiv_f86c9_22 : decode cJ9_floorDiv_f86c9 22 = .ok (.lload 4, 2) := by decide +kernel
theorem dJ9_floorDiv_f86c9_24 : decode cJ9_floorDiv_f86c9 24 = .ok (.lconst 1, 1) := by decide +kernel
theorem dJ9_floorDiv_f86c9_25 : decode cJ9_floorDiv_f86c9 25 = .ok (.lsub, 1) := by decide +kernel
theorem dJ9_floorDiv_f86c9_26 : decode cJ9_floorDiv_f86c9 26 = .ok (.lreturn, 1) := by decide +kernel
theorem dJ9_floorDiv_f86c9_27 : decode cJ9_floorDiv_f86c9 27 = .ok (.lload 4, 2) := by decide +kernel
theorem dJ9_floorDiv_f86c9_29 : decode cJ9_floorDiv_f86c9 29 = .ok (.lreturn, 1) := by decide +kernel
theorem dX5_undo_0 : decode cX5_undo 0 = .ok (.aload_n 0, 1) := by decide +kernel
theorem dX5_undo_1 : decode cX5_undo 1 = .ok (.getfield 12, 3) := by decide +kernel
theorem dX5_undo_4 : decode cX5_undo 4 = .ok (.invokevirtual 108, 3) := by decide +kernel
theorem dX5_undo_7 : decode cX5_undo 7 = .ok (.istore_n 1, 1) := by decide +kernel
theorem dX5_undo_8 : decode cX5_undo 8 = .ok (.iload_n 1, 1) := by decide +kernel
theorem dX5_undo_9 : decode cX5_undo 9 = .ok (.iconst (-1), 1) := by decide +kernel
theorem dX5_undo_10 : decode cX5_undo 10 = .ok (.if_icmp .ne 27, 3) := by decide +kernel
theorem dX5_undo_13 : decode cX5_undo 13 = .ok (.aload_n 0, 1) := by decide +kernel
theorem dX5_undo_14 : decode cX5_undo 14 = .ok (.bipush 13, 2) := by decide +kernel
theorem dX5_undo_16 : decode cX5_undo 16 = .ok (.ldc2_w 112, 3) := by decide +kernel
theorem dX5_undo_19 : decode cX5_undo 19 = .ok (.aload_n 0, 1) := by decide +kernel
theorem dX5_undo_20 : decode cX5_undo 20 = .ok (.getfield 50, 3) := by decide +kernel
theorem dX5_undo_23 : decode cX5_undo 23 = .ok (.i2l, 1) := by decide +kernel
theorem dX5_undo_24 : decode cX5_undo 24 = .ok (.lmul, 1) := by decide +kernel
theorem dX5_undo_25 : decode cX5_undo 25 = .ok (.aload_n 0, 1) := by decide +kernel
theorem dX5_undo_26 : decode cX5_undo 26 = .ok (.getfield 76, 3) := by decide +kernel
theorem dX5_undo_29 : decode cX5_undo 29 = .ok (.i2l, 1) := by decide +kernel
theorem dX5_undo_30 : decode cX5_undo 30 = .ok (.ladd, 1) := by decide +kernel
theorem dX5_undo_31 : decode cX5_undo 31 = .ok (.invokevirtual 114, 3) := by decide +kernel
theorem dX5_undo_34 : decode cX5_undo 34 = .ok (.goto 11, 3) := by decide +kernel
theorem dX5_undo_37 : decode cX5_undo 37 = .ok (.aload_n 0, 1) := by decide +kernel
theorem dX5_undo_38 : decode cX5_undo 38 = .ok (.bipush 11, 2) := by decide +kernel
theorem dX5_undo_40 : decode cX5_undo 40 = .ok (.iload_n 1, 1) := by decide +kernel
theorem dX5_undo_41 : decode cX5_undo 41 = .ok (.i2l, 1) := by decide +kernel
theorem dX5_undo_42 : decode cX5_undo 42 = .ok (.invokevirtual 114, 3) := by decide +kernel
theorem dX5_undo_45 : decode cX5_undo 45 = .ok (.return_, 1) := by decide +kernel
theorem dX3_pop_0 : decode cX3_pop 0 = .ok (.aload_n 0, 1) := by decide +kernel
theorem dX3_pop_1 : decode cX3_pop 1 = .ok (.getfield 15, 3) := by decide +kernel
theorem dX3_pop_4 : decode cX3_pop 4 = .ok (.iconst 1, 1) := by decide +kernel
theorem dX3_pop_5 : decode cX3_pop 5 = .ok (.isub, 1) := by decide +kernel
theorem dX3_pop_6 : decode cX3_pop 6 = .ok (.istore_n 1, 1) := by decide +kernel
theorem dX3_pop_7 : decode cX3_pop 7 = .ok (.iload_n 1, 1) := by decide +kernel
theorem dX3_pop_8 : decode cX3_pop 8 = .ok (.ifCond .lt 12, 3) := by decide +kernel
theorem dX3_pop_11 : decode cX3_pop 11 = .ok (.iload_n 1, 1) := by decide +kernel
theorem dX3_pop_12 : decode cX3_pop 12 = .ok (.aload_n 0, 1) := by decide +kernel
theorem dX3_pop_13 : decode cX3_pop 13 = .ok (.getfield 9, 3) := by decide +kernel
theorem dX3_pop_16 : decode cX3_pop 16 = .ok (.arraylength, 1) := by decide +kernel
theorem dX3_pop_17 : decode cX3_pop 17 = .ok (.if_icmp .lt 5, 3) := by decide +kernel
theorem dX3_pop_20 : decode cX3_pop 20 = .ok (.iconst (-1), 1) := by decide +kernel
theorem dX3_pop_21 : decode cX3_pop 21 = .ok (.ireturn, 1) := by decide +kernel
theorem dX3_pop_22 : decode cX3_pop 22 = .ok (.aload_n 0, 1) := by decide +kernel
theorem dX3_pop_23 : decode cX3_pop 23 = .ok (.iload_n 1, 1) := by decide +kernel
theorem dX3_pop_24 : decode cX3_pop 24 = .ok (.putfield 15, 3) := by decide +kernel
theorem dX3_pop_27 : decode cX3_pop 27 = .ok (.aload_n 0, 1) := by decide +kernel
theorem dX3_pop_28 : decode cX3_pop 28 = .ok (.getfield 9, 3) := by decide +kernel
theorem dX3_pop_31 : decode cX3_pop 31 = .ok (.iload_n 1, 1) := by decide +kernel
theorem dX3_pop_32 : decode cX3_pop 32 = .ok (.iaload, 1) := by decide +kernel
theorem dX3_pop_33 : decode cX3_pop 33 = .ok (.ireturn, 1) := by decide +kernel
theorem dX5_step_0 : decode cX5_step 0 = .ok (.aload_n 0, 1) := by decide +kernel
theorem dX5_step_1 : decode cX5_step 1 = .ok (.getfield 25, 3) := by decide +kernel
theorem dX5_step_4 : decode cX5_step 4 = .ok (.aload_n 0, 1) := by decide +kernel
theorem dX5_step_5 : decode cX5_step 5 = .ok (.getfield 41, 3) := by decide +kernel
theorem dX5_step_8 : decode cX5_step 8 = .ok (.invokevirtual 155, 3) := by decide +kernel
theorem dX5_step_11 : decode cX5_step 11 = .ok (.istore_n 1, 1) := by decide +kernel
theorem dX5_step_12 : decode cX5_step 12 = .ok (.aload_n 0, 1) := by decide +kernel
theorem dX5_step_13 : decode cX5_step 13 = .ok (.getfield 25, 3) := by decide +kernel
theorem dX5_step_16 : decode cX5_step 16 = .ok (.aload_n 0, 1) := by decide +kernel
theorem dX5_step_17 : decode cX5_step 17 = .ok (.getfield 41, 3) := by decide +kernel
theorem dX5_step_20 : decode cX5_step 20 = .ok (.invokevirtual 160, 3) := by decide +kernel
theorem dX5_step_23 : decode cX5_step 23 = .ok (.istore_n 2, 1) := by decide +kernel
theorem dX5_step_24 : decode cX5_step 24 = .ok (.aload_n 0, 1) := by decide +kernel
theorem dX5_step_25 : decode cX5_step 25 = .ok (.getfield 25, 3) := by decide +kernel
theorem dX5_step_28 : decode cX5_step 28 = .ok (.aload_n 0, 1) := by decide +kernel
theorem dX5_step_29 : decode cX5_step 29 = .ok (.getfield 41, 3) := by decide +kernel
theorem dX5_step_32 : decode cX5_step 32 = .ok (.invokevirtual 163, 3) := by decide +kernel
theorem dX5_step_35 : decode cX5_step 35 = .ok (.istore_n 3, 1) := by decide +kernel
theorem dX5_step_36 : decode cX5_step 36 = .ok (.aload_n 0, 1) := by decide +kernel
theorem dX5_step_37 : decode cX5_step 37 = .ok (.aload_n 0, 1) := by decide +kernel
theorem dX5_step_38 : decode cX5_step 38 = .ok (.getfield 41, 3) := by decide +kernel
theorem dX5_step_41 : decode cX5_step 41 = .ok (.iconst 1, 1) := by decide +kernel
theorem dX5_step_42 : decode cX5_step 42 = .ok (.iadd, 1) := by decide +kernel
theorem dX5_step_43 : decode cX5_step 43 = .ok (.bipush 20, 2) := by decide +kernel
theorem dX5_step_45 : decode cX5_step 45 = .ok (.irem, 1) := by decide +kernel
theorem dX5_step_46 : decode cX5_step 46 = .ok (.putfield 41, 3) := by decide +kernel
theorem dX5_step_49 : decode cX5_step 49 = .ok (.aload_n 0, 1) := by decide +kernel
theorem dX5_step_50 : decode cX5_step 50 = .ok (.dup, 1) := by decide +kernel
theorem dX5_step_51 : decode cX5_step 51 = .ok (.getfield 53, 3) := by decide +kernel
theorem dX5_step_54 : decode cX5_step 54 = .ok (.iconst 1, 1) := by decide +kernel
theorem dX5_step_55 : decode cX5_step 55 = .ok (.iadd, 1) := by decide +kernel
theorem dX5_step_56 : decode cX5_step 56 = .ok (.putfield 53, 3) := by decide +kernel
theorem dX5_step_59 : decode cX5_step 59 = .ok (.aload_n 0, 1) := by decide +kernel
theorem dX5_step_60 : decode cX5_step 60 = .ok (.getfield 53, 3) := by decide +kernel
theorem dX5_step_63 : decode cX5_step 63 = .ok (.bipush 60, 2) := by decide +kernel
theorem dX5_step_65 : decode cX5_step 65 = .ok (.if_icmp .gt 12, 3) := by decide +kernel
theorem dX5_step_68 : decode cX5_step 68 = .ok (.aload_n 0, 1) := by decide +kernel
theorem dX5_step_69 : decode cX5_step 69 = .ok (.iload_n 1, 1) := by decide +kernel
theorem dX5_step_70 : decode cX5_step 70 = .ok (.iload_n 2, 1) := by decide +kernel
theorem dX5_step_71 : decode cX5_step 71 = .ok (.invokevirtual 166, 3) := by decide +kernel
theorem dX5_step_74 : decode cX5_step 74 = .ok (.ifCond .eq 8, 3) := by decide +kernel
theorem dX5_step_77 : decode cX5_step 77 = .ok (.aload_n 0, 1) := by decide +kernel
theorem dX5_step_78 : decode cX5_step 78 = .ok (.invokevirtual 122, 3) := by decide +kernel
theorem dX5_step_81 : decode cX5_step 81 = .ok (.return_, 1) := by decide +kernel
theorem dX5_step_82 : decode cX5_step 82 = .ok (.iload_n 1, 1) := by decide +kernel
theorem dX5_step_83 : decode cX5_step 83 = .ok (.tableswitch 213 0 17 #[193, 85, 95, 114, 122, 213, 213, 213, 213, 131, 145, 171, 213, 213, 182, 213, 213, 159], 85) := by decide +kernel
theorem dX5_step_168 : decode cX5_step 168 = .ok (.aload_n 0, 1) := by decide +kernel
theorem dX5_step_169 : decode cX5_step 169 = .ok (.iconst 1, 1) := by decide +kernel
theorem dX5_step_170 : decode cX5_step 170 = .ok (.iload_n 2, 1) := by decide +kernel
theorem dX5_step_171 : decode cX5_step 171 = .ok (.i2l, 1) := by decide +kernel
theorem dX5_step_172 : decode cX5_step 172 = .ok (.invokevirtual 114, 3) := by decide +kernel
theorem dX5_step_175 : decode cX5_step 175 = .ok (.goto 127, 3) := by decide +kernel
theorem dX5_step_178 : decode cX5_step 178 = .ok (.aload_n 0, 1) := by decide +kernel
theorem dX5_step_179 : decode cX5_step 179 = .ok (.iconst (-1), 1) := by decide +kernel
theorem dX5_step_180 : decode cX5_step 180 = .ok (.putfield 59, 3) := by decide +kernel
theorem dX5_step_183 : decode cX5_step 183 = .ok (.aload_n 0, 1) := by decide +kernel
theorem dX5_step_184 : decode cX5_step 184 = .ok (.iconst 4, 1) := by decide +kernel
theorem dX5_step_185 : decode cX5_step 185 = .ok (.iconst 1, 1) := by decide +kernel
theorem dX5_step_186 : decode cX5_step 186 = .ok (.iload_n 2, 1) := by decide +kernel
theorem dX5_step_187 : decode cX5_step 187 = .ok (.invokestatic 170, 3) := by decide +kernel
theorem dX5_step_190 : decode cX5_step 190 = .ok (.i2l, 1) := by decide +kernel
theorem dX5_step_191 : decode cX5_step 191 = .ok (.invokevirtual 114, 3) := by decide +kernel
theorem dX5_step_194 : decode cX5_step 194 = .ok (.goto 108, 3) := by decide +kernel
theorem dX5_step_197 : decode cX5_step 197 = .ok (.aload_n 0, 1) := by decide +kernel
theorem dX5_step_198 : decode cX5_step 198 = .ok (.iload_n 2, 1) := by decide +kernel
theorem dX5_step_199 : decode cX5_step 199 = .ok (.invokevirtual 174, 3) := by decide +kernel
theorem dX5_step_202 : decode cX5_step 202 = .ok (.goto 100, 3) := by decide +kernel
theorem dX5_step_205 : decode cX5_step 205 = .ok (.aload_n 0, 1) := by decide +kernel
theorem dX5_step_206 : decode cX5_step 206 = .ok (.iload_n 2, 1) := by decide +kernel
theorem dX5_step_207 : decode cX5_step 207 = .ok (.iload_n 3, 1) := by decide +kernel
theorem dX5_step_208 : decode cX5_step 208 = .ok (.invokevirtual 177, 3) := by decide +kernel
theorem dX5_step_211 : decode cX5_step 211 = .ok (.goto 91, 3) := by decide +kernel
theorem dX5_step_214 : decode cX5_step 214 = .ok (.aload_n 0, 1) := by decide +kernel
theorem dX5_step_215 : decode cX5_step 215 = .ok (.bipush 7, 2) := by decide +kernel
theorem dX5_step_217 : decode cX5_step 217 = .ok (.iload_n 2, 1) := by decide +kernel
theorem dX5_step_218 : decode cX5_step 218 = .ok (.bipush 6, 2) := by decide +kernel
theorem dX5_step_220 : decode cX5_step 220 = .ok (.irem, 1) := by decide +kernel
theorem dX5_step_221 : decode cX5_step 221 = .ok (.i2l, 1) := by decide +kernel
theorem dX5_step_222 : decode cX5_step 222 = .ok (.invokevirtual 114, 3) := by decide +kernel
theorem dX5_step_225 : decode cX5_step 225 = .ok (.goto 77, 3) := by decide +kernel
theorem dX5_step_228 : decode cX5_step 228 = .ok (.aload_n 0, 1) := by decide +kernel
theorem dX5_step_229 : decode cX5_step 229 = .ok (.bipush 14, 2) := by decide +kernel
theorem dX5_step_231 : decode cX5_step 231 = .ok (.iload_n 2, 1) := by decide +kernel
theorem dX5_step_232 : decode cX5_step 232 = .ok (.bipush 6, 2) := by decide +kernel
theorem dX5_step_234 : decode cX5_step 234 = .ok (.irem, 1) := by decide +kernel
theorem dX5_step_235 : decode cX5_step 235 = .ok (.i2l, 1) := by decide +kernel
theorem dX5_step_236 : decode cX5_step 236 = .ok (.invokevirtual 114, 3) := by decide +kernel
theorem dX5_step_239 : decode cX5_step 239 = .ok (.goto 63, 3) := by decide +kernel
theorem dX5_step_242 : decode cX5_step 242 = .ok (.aload_n 0, 1) := by decide +kernel
theorem dX5_step_243 : decode cX5_step 243 = .ok (.bipush 14, 2) := by decide +kernel
theorem dX5_step_245 : decode cX5_step 245 = .ok (.ldc2_w 128, 3) := by decide +kernel
theorem dX5_step_248 : decode cX5_step 248 = .ok (.invokevirtual 114, 3) := by decide +kernel
theorem dX5_step_251 : decode cX5_step 251 = .ok (.goto 51, 3) := by decide +kernel
theorem dX5_step_254 : decode cX5_step 254 = .ok (.aload_n 0, 1) := by decide +kernel
theorem dX5_step_255 : decode cX5_step 255 = .ok (.bipush 9, 2) := by decide +kernel
theorem dX5_step_257 : decode cX5_step 257 = .ok (.iload_n 2, 1) := by decide +kernel
theorem dX5_step_258 : decode cX5_step 258 = .ok (.i2l, 1) := by decide +kernel
theorem dX5_step_259 : decode cX5_step 259 = .ok (.invokevirtual 114, 3) := by decide +kernel
theorem dX5_step_262 : decode cX5_step 262 = .ok (.goto 40, 3) := by decide +kernel
theorem dX5_step_265 : decode cX5_step 265 = .ok (.aload_n 0, 1) := by decide +kernel
theorem dX5_step_266 : decode cX5_step 266 = .ok (.bipush 10, 2) := by decide +kernel
theorem dX5_step_268 : decode cX5_step 268 = .ok (.iload_n 2, 1) := by decide +kernel
theorem dX5_step_269 : decode cX5_step 269 = .ok (.i2l, 1) := by decide +kernel
theorem dX5_step_270 : decode cX5_step 270 = .ok (.invokevirtual 114, 3) := by decide +kernel
theorem dX5_step_273 : decode cX5_step 273 = .ok (.goto 29, 3) := by decide +kernel
theorem dX5_step_276 : decode cX5_step 276 = .ok (.aload_n 0, 1) := by decide +kernel
theorem dX5_step_277 : decode cX5_step 277 = .ok (.bipush 13, 2) := by decide +kernel
theorem dX5_step_279 : decode cX5_step 279 = .ok (.ldc2_w 112, 3) := by decide +kernel
theorem dX5_step_282 : decode cX5_step 282 = .ok (.aload_n 0, 1) := by decide +kernel
theorem dX5_step_283 : decode cX5_step 283 = .ok (.getfield 50, 3) := by decide +kernel
theorem dX5_step_286 : decode cX5_step 286 = .ok (.i2l, 1) := by decide +kernel
theorem dX5_step_287 : decode cX5_step 287 = .ok (.lmul, 1) := by decide +kernel
theorem dX5_step_288 : decode cX5_step 288 = .ok (.lconst 1, 1) := by decide +kernel
theorem dX5_step_289 : decode cX5_step 289 = .ok (.ladd, 1) := by decide +kernel
theorem dX5_step_290 : decode cX5_step 290 = .ok (.invokevirtual 114, 3) := by decide +kernel
theorem dX5_step_293 : decode cX5_step 293 = .ok (.goto 9, 3) := by decide +kernel
theorem dX5_step_296 : decode cX5_step 296 = .ok (.aload_n 0, 1) := by decide +kernel
theorem dX5_step_297 : decode cX5_step 297 = .ok (.iload_n 1, 1) := by decide +kernel
theorem dX5_step_298 : decode cX5_step 298 = .ok (.iload_n 2, 1) := by decide +kernel
theorem dX5_step_299 : decode cX5_step 299 = .ok (.invokevirtual 181, 3) := by decide +kernel
theorem dX5_step_302 : decode cX5_step 302 = .ok (.return_, 1) := by decide +kernel
theorem dX4_operation_0 : decode cX4_operation 0 = .ok (.iload_n 1, 1) := by decide +kernel
theorem dX4_operation_1 : decode cX4_operation 1 = .ok (.ifCond .lt 21, 3) := by decide +kernel
theorem dX4_operation_4 : decode cX4_operation 4 = .ok (.iload_n 1, 1) := by decide +kernel
theorem dX4_operation_5 : decode cX4_operation 5 = .ok (.aload_n 0, 1) := by decide +kernel
theorem dX4_operation_6 : decode cX4_operation 6 = .ok (.getfield 9, 3) := by decide +kernel
theorem dX4_operation_9 : decode cX4_operation 9 = .ok (.arraylength, 1) := by decide +kernel
theorem dX4_operation_10 : decode cX4_operation 10 = .ok (.if_icmp .ge 12, 3) := by decide +kernel
theorem dX4_operation_13 : decode cX4_operation 13 = .ok (.aload_n 0, 1) := by decide +kernel
theorem dX4_operation_14 : decode cX4_operation 14 = .ok (.getfield 9, 3) := by decide +kernel
theorem dX4_operation_17 : decode cX4_operation 17 = .ok (.iload_n 1, 1) := by decide +kernel
theorem dX4_operation_18 : decode cX4_operation 18 = .ok (.iaload, 1) := by decide +kernel
theorem dX4_operation_19 : decode cX4_operation 19 = .ok (.goto 4, 3) := by decide +kernel
theorem dX4_operation_22 : decode cX4_operation 22 = .ok (.iconst 0, 1) := by decide +kernel
theorem dX4_operation_23 : decode cX4_operation 23 = .ok (.ireturn, 1) := by decide +kernel
theorem dX4_first_0 : decode cX4_first 0 = .ok (.iload_n 1, 1) := by decide +kernel
theorem dX4_first_1 : decode cX4_first 1 = .ok (.ifCond .lt 21, 3) := by decide +kernel
theorem dX4_first_4 : decode cX4_first 4 = .ok (.iload_n 1, 1) := by decide +kernel
theorem dX4_first_5 : decode cX4_first 5 = .ok (.aload_n 0, 1) := by decide +kernel
theorem dX4_first_6 : decode cX4_first 6 = .ok (.getfield 15, 3) := by decide +kernel
theorem dX4_first_9 : decode cX4_first 9 = .ok (.arraylength, 1) := by decide +kernel
theorem dX4_first_10 : decode cX4_first 10 = .ok (.if_icmp .ge 12, 3) := by decide +kernel
theorem dX4_first_13 : decode cX4_first 13 = .ok (.aload_n 0, 1) := by decide +kernel
theorem dX4_first_14 : decode cX4_first 14 = .ok (.getfield 15, 3) := by decide +kernel
theorem dX4_first_17 : decode cX4_first 17 = .ok (.iload_n 1, 1) := by decide +kernel
theorem dX4_first_18 : decode cX4_first 18 = .ok (.iaload, 1) := by decide +kernel
theorem dX4_first_19 : decode cX4_first 19 = .ok (.goto 4, 3) := by decide +kernel
theorem dX4_first_22 : decode cX4_first 22 = .ok (.iconst 0, 1) := by decide +kernel
theorem dX4_first_23 : decode cX4_first 23 = .ok (.ireturn, 1) := by decide +kernel
theorem dX4_second_0 : decode cX4_second 0 = .ok (.iload_n 1, 1) := by decide +kernel
theorem dX4_second_1 : decode cX4_second 1 = .ok (.ifCond .lt 21, 3) := by decide +kernel
theorem dX4_second_4 : decode cX4_second 4 = .ok (.iload_n 1, 1) := by decide +kernel
theorem dX4_second_5 : decode cX4_second 5 = .ok (.aload_n 0, 1) := by decide +kernel
theorem dX4_second_6 : decode cX4_second 6 = .ok (.getfield 18, 3) := by decide +kernel
theorem dX4_second_9 : decode cX4_second 9 = .ok (.arraylength, 1) := by decide +kernel
theorem dX4_second_10 : decode cX4_second 10 = .ok (.if_icmp .ge 12, 3) := by decide +kernel
theorem dX4_second_13 : decode cX4_second 13 = .ok (.aload_n 0, 1) := by decide +kernel
theorem dX4_second_14 : decode cX4_second 14 = .ok (.getfield 18, 3) := by decide +kernel
theorem dX4_second_17 : decode cX4_second 17 = .ok (.iload_n 1, 1) := by decide +kernel
theorem dX4_second_18 : decode cX4_second 18 = .ok (.iaload, 1) := by decide +kernel
theorem dX4_second_19 : decode cX4_second 19 = .ok (.goto 4, 3) := by decide +kernel
theorem dX4_second_22 : decode cX4_second 22 = .ok (.iconst 0, 1) := by decide +kernel
theorem dX4_second_23 : decode cX4_second 23 = .ok (.ireturn, 1) := by decide +kernel
theorem dX5_isRefused_0 : decode cX5_isRefused 0 = .ok (.iload_n 1, 1) := by decide +kernel
theorem dX5_isRefused_1 : decode cX5_isRefused 1 = .ok (.tableswitch 133 1 17 #[118, 118, 133, 91, 133, 133, 133, 133, 118, 118, 118, 83, 133, 118, 133, 133, 118], 83) := by decide +kernel
theorem dX5_isRefused_84 : decode cX5_isRefused 84 = .ok (.aload_n 0, 1) := by decide +kernel
theorem dX5_isRefused_85 : decode cX5_isRefused 85 = .ok (.getfield 12, 3) := by decide +kernel
theorem dX5_isRefused_88 : decode cX5_isRefused 88 = .ok (.invokevirtual 187, 3) := by decide +kernel
theorem dX5_isRefused_91 : decode cX5_isRefused 91 = .ok (.ireturn, 1) := by decide +kernel
theorem dX5_isRefused_92 : decode cX5_isRefused 92 = .ok (.aload_n 0, 1) := by decide +kernel
theorem dX5_isRefused_93 : decode cX5_isRefused 93 = .ok (.getfield 38, 3) := by decide +kernel
theorem dX5_isRefused_96 : decode cX5_isRefused 96 = .ok (.bipush 60, 2) := by decide +kernel
theorem dX5_isRefused_98 : decode cX5_isRefused 98 = .ok (.if_icmp .lt 19, 3) := by decide +kernel
theorem dX5_isRefused_101 : decode cX5_isRefused 101 = .ok (.aload_n 0, 1) := by decide +kernel
theorem dX5_isRefused_102 : decode cX5_isRefused 102 = .ok (.getfield 21, 3) := by decide +kernel
theorem dX5_isRefused_105 : decode cX5_isRefused 105 = .ok (.iload_n 2, 1) := by decide +kernel
theorem dX5_isRefused_106 : decode cX5_isRefused 106 = .ok (.invokevirtual 191, 3) := by decide +kernel
theorem dX5_isRefused_109 : decode cX5_isRefused 109 = .ok (.iconst (-1), 1) := by decide +kernel
theorem dX5_isRefused_110 : decode cX5_isRefused 110 = .ok (.if_icmp .ne 7, 3) := by decide +kernel
theorem dX5_isRefused_113 : decode cX5_isRefused 113 = .ok (.iconst 1, 1) := by decide +kernel
theorem dX5_isRefused_114 : decode cX5_isRefused 114 = .ok (.goto 4, 3) := by decide +kernel
theorem dX5_isRefused_117 : decode cX5_isRefused 117 = .ok (.iconst 0, 1) := by decide +kernel
theorem dX5_isRefused_118 : decode cX5_isRefused 118 = .ok (.ireturn, 1) := by decide +kernel
theorem dX5_isRefused_119 : decode cX5_isRefused 119 = .ok (.aload_n 0, 1) := by decide +kernel
theorem dX5_isRefused_120 : decode cX5_isRefused 120 = .ok (.getfield 38, 3) := by decide +kernel
theorem dX5_isRefused_123 : decode cX5_isRefused 123 = .ok (.bipush 60, 2) := by decide +kernel
theorem dX5_isRefused_125 : decode cX5_isRefused 125 = .ok (.if_icmp .lt 7, 3) := by decide +kernel
theorem dX5_isRefused_128 : decode cX5_isRefused 128 = .ok (.iconst 1, 1) := by decide +kernel
theorem dX5_isRefused_129 : decode cX5_isRefused 129 = .ok (.goto 4, 3) := by decide +kernel
theorem dX5_isRefused_132 : decode cX5_isRefused 132 = .ok (.iconst 0, 1) := by decide +kernel
theorem dX5_isRefused_133 : decode cX5_isRefused 133 = .ok (.ireturn, 1) := by decide +kernel
theorem dX5_isRefused_134 : decode cX5_isRefused 134 = .ok (.iconst 0, 1) := by decide +kernel
theorem dX5_isRefused_135 : decode cX5_isRefused 135 = .ok (.ireturn, 1) := by decide +kernel
theorem dX3_isFull_0 : decode cX3_isFull 0 = .ok (.aload_n 0, 1) := by decide +kernel
theorem dX3_isFull_1 : decode cX3_isFull 1 = .ok (.getfield 15, 3) := by decide +kernel
theorem dX3_isFull_4 : decode cX3_isFull 4 = .ok (.bipush 20, 2) := by decide +kernel
theorem dX3_isFull_6 : decode cX3_isFull 6 = .ok (.if_icmp .lt 7, 3) := by decide +kernel
theorem dX3_isFull_9 : decode cX3_isFull 9 = .ok (.iconst 1, 1) := by decide +kernel
theorem dX3_isFull_10 : decode cX3_isFull 10 = .ok (.goto 4, 3) := by decide +kernel
theorem dX3_isFull_13 : decode cX3_isFull 13 = .ok (.iconst 0, 1) := by decide +kernel
theorem dX3_isFull_14 : decode cX3_isFull 14 = .ok (.ireturn, 1) := by decide +kernel
theorem dX6_find_0 : decode cX6_find 0 = .ok (.iconst 0, 1) := by decide +kernel
theorem dX6_find_1 : decode cX6_find 1 = .ok (.istore_n 2, 1) := by decide +kernel
theorem dX6_find_2 : decode cX6_find 2 = .ok (.iload_n 2, 1) := by decide +kernel
theorem dX6_find_3 : decode cX6_find 3 = .ok (.aload_n 0, 1) := by decide +kernel
theorem dX6_find_4 : decode cX6_find 4 = .ok (.getfield 15, 3) := by decide +kernel
theorem dX6_find_7 : decode cX6_find 7 = .ok (.if_icmp .ge 33, 3) := by decide +kernel
theorem dX6_find_10 : decode cX6_find 10 = .ok (.iload_n 2, 1) := by decide +kernel
theorem dX6_find_11 : decode cX6_find 11 = .ok (.aload_n 0, 1) := by decide +kernel
theorem dX6_find_12 : decode cX6_find 12 = .ok (.getfield 9, 3) := by decide +kernel
theorem dX6_find_15 : decode cX6_find 15 = .ok (.arraylength, 1) := by decide +kernel
theorem dX6_find_16 : decode cX6_find 16 = .ok (.if_icmp .ge 24, 3) := by decide +kernel
theorem dX6_find_19 : decode cX6_find 19 = .ok (.aload_n 0, 1) := by decide +kernel
theorem dX6_find_20 : decode cX6_find 20 = .ok (.getfield 9, 3) := by decide +kernel
theorem dX6_find_23 : decode cX6_find 23 = .ok (.iload_n 2, 1) := by decide +kernel
theorem dX6_find_24 : decode cX6_find 24 = .ok (.iaload, 1) := by decide +kernel
theorem dX6_find_25 : decode cX6_find 25 = .ok (.bipush 100, 2) := by decide +kernel
theorem dX6_find_27 : decode cX6_find 27 = .ok (.idiv, 1) := by decide +kernel
theorem dX6_find_28 : decode cX6_find 28 = .ok (.iload_n 1, 1) := by decide +kernel
theorem dX6_find_29 : decode cX6_find 29 = .ok (.if_icmp .ne 5, 3) := by decide +kernel
theorem dX6_find_32 : decode cX6_find 32 = .ok (.iload_n 2, 1) := by decide +kernel
theorem dX6_find_33 : decode cX6_find 33 = .ok (.ireturn, 1) := by decide +kernel
theorem dX6_find_34 : decode cX6_find 34 = .ok (.iinc 2 1, 3) := by decide +kernel
theorem dX6_find_37 : decode cX6_find 37 = .ok (.goto (-35), 3) := by decide +kernel
theorem dX6_find_40 : decode cX6_find 40 = .ok (.iconst (-1), 1) := by decide +kernel
theorem dX6_find_41 : decode cX6_find 41 = .ok (.ireturn, 1) := by decide +kernel
theorem dJ9_max_7cf53_0 : decode cJ9_max_7cf53 0 = .ok (.iload_n 0, 1) := by decide +kernel
theorem dJ9_max_7cf53_1 : decode cJ9_max_7cf53 1 = .ok (.iload_n 1, 1) := by decide +kernel
theorem dJ9_max_7cf53_2 : decode cJ9_max_7cf53 2 = .ok (.if_icmp .lt 7, 3) := by decide +kernel
theorem dJ9_max_7cf53_5 : decode cJ9_max_7cf53 5 = .ok (.iload_n 0, 1) := by decide +kernel
theorem dJ9_max_7cf53_6 : decode cJ9_max_7cf53 6 = .ok (.goto 4, 3) := by decide +kernel
theorem dJ9_max_7cf53_9 : decode cJ9_max_7cf53 9 = .ok (.iload_n 1, 1) := by decide +kernel
theorem dJ9_max_7cf53_10 : decode cJ9_max_7cf53 10 = .ok (.ireturn, 1) := by decide +kernel
theorem dX5_await_0 : decode cX5_await 0 = .ok (.aload_n 0, 1) := by decide +kernel
theorem dX5_await_1 : decode cX5_await 1 = .ok (.getfield 21, 3) := by decide +kernel
theorem dX5_await_4 : decode cX5_await 4 = .ok (.iload_n 1, 1) := by decide +kernel
theorem dX5_await_5 : decode cX5_await 5 = .ok (.invokevirtual 191, 3) := by decide +kernel
theorem dX5_await_8 : decode cX5_await 8 = .ok (.istore_n 2, 1) := by decide +kernel
theorem dX5_await_9 : decode cX5_await 9 = .ok (.iload_n 2, 1) := by decide +kernel
theorem dX5_await_10 : decode cX5_await 10 = .ok (.iconst (-1), 1) := by decide +kernel
theorem dX5_await_11 : decode cX5_await 11 = .ok (.if_icmp .ne 16, 3) := by decide +kernel
theorem dX5_await_14 : decode cX5_await 14 = .ok (.aload_n 0, 1) := by decide +kernel
theorem dX5_await_15 : decode cX5_await 15 = .ok (.iload_n 1, 1) := by decide +kernel
theorem dX5_await_16 : decode cX5_await 16 = .ok (.putfield 59, 3) := by decide +kernel
theorem dX5_await_19 : decode cX5_await 19 = .ok (.aload_n 0, 1) := by decide +kernel
theorem dX5_await_20 : decode cX5_await 20 = .ok (.iconst 3, 1) := by decide +kernel
theorem dX5_await_21 : decode cX5_await 21 = .ok (.putfield 56, 3) := by decide +kernel
theorem dX5_await_24 : decode cX5_await 24 = .ok (.goto 15, 3) := by decide +kernel
theorem dX5_await_27 : decode cX5_await 27 = .ok (.aload_n 0, 1) := by decide +kernel
theorem dX5_await_28 : decode cX5_await 28 = .ok (.aload_n 0, 1) := by decide +kernel
theorem dX5_await_29 : decode cX5_await 29 = .ok (.getfield 21, 3) := by decide +kernel
theorem dX5_await_32 : decode cX5_await 32 = .ok (.iload_n 2, 1) := by decide +kernel
theorem dX5_await_33 : decode cX5_await 33 = .ok (.invokevirtual 194, 3) := by decide +kernel
theorem dX5_await_36 : decode cX5_await 36 = .ok (.putfield 50, 3) := by decide +kernel
theorem dX5_await_39 : decode cX5_await 39 = .ok (.return_, 1) := by decide +kernel
theorem dX6_use_0 : decode cX6_use 0 = .ok (.iload_n 1, 1) := by decide +kernel
theorem dX6_use_1 : decode cX6_use 1 = .ok (.ifCond .lt 23, 3) := by decide +kernel
theorem dX6_use_4 : decode cX6_use 4 = .ok (.iload_n 1, 1) := by decide +kernel
theorem dX6_use_5 : decode cX6_use 5 = .ok (.aload_n 0, 1) := by decide +kernel
theorem dX6_use_6 : decode cX6_use 6 = .ok (.getfield 15, 3) := by decide +kernel
theorem dX6_use_9 : decode cX6_use 9 = .ok (.if_icmp .ge 15, 3) := by decide +kernel
theorem dX6_use_12 : decode cX6_use 12 = .ok (.aload_n 0, 1) := by decide +kernel
theorem dX6_use_13 : decode cX6_use 13 = .ok (.getfield 15, 3) := by decide +kernel
theorem dX6_use_16 : decode cX6_use 16 = .ok (.aload_n 0, 1) := by decide +kernel
theorem dX6_use_17 : decode cX6_use 17 = .ok (.getfield 9, 3) := by decide +kernel
theorem dX6_use_20 : decode cX6_use 20 = .ok (.arraylength, 1) := by decide +kernel
theorem dX6_use_21 : decode cX6_use 21 = .ok (.if_icmp .le 5, 3) := by decide +kernel
theorem dX6_use_24 : decode cX6_use 24 = .ok (.iconst 0, 1) := by decide +kernel
theorem dX6_use_25 : decode cX6_use 25 = .ok (.ireturn, 1) := by decide +kernel
theorem dX6_use_26 : decode cX6_use 26 = .ok (.aload_n 0, 1) := by decide +kernel
theorem dX6_use_27 : decode cX6_use 27 = .ok (.getfield 9, 3) := by decide +kernel
theorem dX6_use_30 : decode cX6_use 30 = .ok (.iload_n 1, 1) := by decide +kernel
theorem dX6_use_31 : decode cX6_use 31 = .ok (.iaload, 1) := by decide +kernel
theorem dX6_use_32 : decode cX6_use 32 = .ok (.bipush 100, 2) := by decide +kernel
theorem dX6_use_34 : decode cX6_use 34 = .ok (.irem, 1) := by decide +kernel
theorem dX6_use_35 : decode cX6_use 35 = .ok (.istore_n 2, 1) := by decide +kernel
theorem dX6_use_36 : decode cX6_use 36 = .ok (.iload_n 1, 1) := by decide +kernel
theorem dX6_use_37 : decode cX6_use 37 = .ok (.istore_n 3, 1) := by decide +kernel
theorem dX6_use_38 : decode cX6_use 38 = .ok (.iload_n 3, 1) := by decide +kernel
theorem dX6_use_39 : decode cX6_use 39 = .ok (.iconst 1, 1) := by decide +kernel
theorem dX6_use_40 : decode cX6_use 40 = .ok (.iadd, 1) := by decide +kernel
theorem dX6_use_41 : decode cX6_use 41 = .ok (.aload_n 0, 1) := by decide +kernel
theorem dX6_use_42 : decode cX6_use 42 = .ok (.getfield 15, 3) := by decide +kernel
theorem dX6_use_45 : decode cX6_use 45 = .ok (.if_icmp .ge 23, 3) := by decide +kernel
theorem dX6_use_48 : decode cX6_use 48 = .ok (.aload_n 0, 1) := by decide +kernel
theorem dX6_use_49 : decode cX6_use 49 = .ok (.getfield 9, 3) := by decide +kernel
theorem dX6_use_52 : decode cX6_use 52 = .ok (.iload_n 3, 1) := by decide +kernel
theorem dX6_use_53 : decode cX6_use 53 = .ok (.aload_n 0, 1) := by decide +kernel
theorem dX6_use_54 : decode cX6_use 54 = .ok (.getfield 9, 3) := by decide +kernel
theorem dX6_use_57 : decode cX6_use 57 = .ok (.iload_n 3, 1) := by decide +kernel
theorem dX6_use_58 : decode cX6_use 58 = .ok (.iconst 1, 1) := by decide +kernel
theorem dX6_use_59 : decode cX6_use 59 = .ok (.iadd, 1) := by decide +kernel
theorem dX6_use_60 : decode cX6_use 60 = .ok (.iaload, 1) := by decide +kernel
theorem dX6_use_61 : decode cX6_use 61 = .ok (.iastore, 1) := by decide +kernel
theorem dX6_use_62 : decode cX6_use 62 = .ok (.iinc 3 1, 3) := by decide +kernel
theorem dX6_use_65 : decode cX6_use 65 = .ok (.goto (-27), 3) := by decide +kernel
theorem dX6_use_68 : decode cX6_use 68 = .ok (.aload_n 0, 1) := by decide +kernel
theorem dX6_use_69 : decode cX6_use 69 = .ok (.dup, 1) := by decide +kernel
theorem dX6_use_70 : decode cX6_use 70 = .ok (.getfield 15, 3) := by decide +kernel
theorem dX6_use_73 : decode cX6_use 73 = .ok (.iconst 1, 1) := by decide +kernel
theorem dX6_use_74 : decode cX6_use 74 = .ok (.isub, 1) := by decide +kernel
theorem dX6_use_75 : decode cX6_use 75 = .ok (.putfield 15, 3) := by decide +kernel
theorem dX6_use_78 : decode cX6_use 78 = .ok (.iload_n 2, 1) := by decide +kernel
theorem dX6_use_79 : decode cX6_use 79 = .ok (.ireturn, 1) := by decide +kernel
theorem dX5_select_0 : decode cX5_select 0 = .ok (.aload_n 0, 1) := by decide +kernel
theorem dX5_select_1 : decode cX5_select 1 = .ok (.getfield 21, 3) := by decide +kernel
theorem dX5_select_4 : decode cX5_select 4 = .ok (.iload_n 1, 1) := by decide +kernel
theorem dX5_select_5 : decode cX5_select 5 = .ok (.invokevirtual 191, 3) := by decide +kernel
theorem dX5_select_8 : decode cX5_select 8 = .ok (.istore_n 3, 1) := by decide +kernel
theorem dX5_select_9 : decode cX5_select 9 = .ok (.iload_n 3, 1) := by decide +kernel
theorem dX5_select_10 : decode cX5_select 10 = .ok (.iconst (-1), 1) := by decide +kernel
theorem dX5_select_11 : decode cX5_select 11 = .ok (.if_icmp .ne 22, 3) := by decide +kernel
theorem dX5_select_14 : decode cX5_select 14 = .ok (.aload_n 0, 1) := by decide +kernel
theorem dX5_select_15 : decode cX5_select 15 = .ok (.iload_n 1, 1) := by decide +kernel
theorem dX5_select_16 : decode cX5_select 16 = .ok (.putfield 59, 3) := by decide +kernel
theorem dX5_select_19 : decode cX5_select 19 = .ok (.aload_n 0, 1) := by decide +kernel
theorem dX5_select_20 : decode cX5_select 20 = .ok (.iconst 4, 1) := by decide +kernel
theorem dX5_select_21 : decode cX5_select 21 = .ok (.iconst 1, 1) := by decide +kernel
theorem dX5_select_22 : decode cX5_select 22 = .ok (.iload_n 2, 1) := by decide +kernel
theorem dX5_select_23 : decode cX5_select 23 = .ok (.invokestatic 170, 3) := by decide +kernel
theorem dX5_select_26 : decode cX5_select 26 = .ok (.i2l, 1) := by decide +kernel
theorem dX5_select_27 : decode cX5_select 27 = .ok (.invokevirtual 114, 3) := by decide +kernel
theorem dX5_select_30 : decode cX5_select 30 = .ok (.goto 17, 3) := by decide +kernel
theorem dX5_select_33 : decode cX5_select 33 = .ok (.aload_n 0, 1) := by decide +kernel
theorem dX5_select_34 : decode cX5_select 34 = .ok (.getfield 21, 3) := by decide +kernel
theorem dX5_select_37 : decode cX5_select 37 = .ok (.iload_n 3, 1) := by decide +kernel
theorem dX5_select_38 : decode cX5_select 38 = .ok (.invokevirtual 194, 3) := by decide +kernel
theorem dX5_select_41 : decode cX5_select 41 = .ok (.pop, 1) := by decide +kernel
theorem dX5_select_42 : decode cX5_select 42 = .ok (.aload_n 0, 1) := by decide +kernel
theorem dX5_select_43 : decode cX5_select 43 = .ok (.iconst 1, 1) := by decide +kernel
theorem dX5_select_44 : decode cX5_select 44 = .ok (.putfield 50, 3) := by decide +kernel
theorem dX5_select_47 : decode cX5_select 47 = .ok (.return_, 1) := by decide +kernel
theorem dX5_stepWithoutEvent_0 : decode cX5_stepWithoutEvent 0 = .ok (.iload_n 1, 1) := by decide +kernel
theorem dX5_stepWithoutEvent_1 : decode cX5_stepWithoutEvent 1 = .ok (.tableswitch 175 5 16 #[63, 88, 99, 112, 175, 175, 175, 125, 168, 175, 136, 144], 63) := by decide +kernel
theorem dX5_stepWithoutEvent_64 : decode cX5_stepWithoutEvent 64 = .ok (.aload_n 0, 1) := by decide +kernel
theorem dX5_stepWithoutEvent_65 : decode cX5_stepWithoutEvent 65 = .ok (.aload_n 0, 1) := by decide +kernel
theorem dX5_stepWithoutEvent_66 : decode cX5_stepWithoutEvent 66 = .ok (.getfield 50, 3) := by decide +kernel
theorem dX5_stepWithoutEvent_69 : decode cX5_stepWithoutEvent 69 = .ok (.ifCond .ne 10, 3) := by decide +kernel
theorem dX5_stepWithoutEvent_72 : decode cX5_stepWithoutEvent 72 = .ok (.iload_n 2, 1) := by decide +kernel
theorem dX5_stepWithoutEvent_73 : decode cX5_stepWithoutEvent 73 = .ok (.bipush 20, 2) := by decide +kernel
theorem dX5_stepWithoutEvent_75 : decode cX5_stepWithoutEvent 75 = .ok (.irem, 1) := by decide +kernel
theorem dX5_stepWithoutEvent_76 : decode cX5_stepWithoutEvent 76 = .ok (.goto 7, 3) := by decide +kernel
theorem dX5_stepWithoutEvent_79 : decode cX5_stepWithoutEvent 79 = .ok (.aload_n 0, 1) := by decide +kernel
theorem dX5_stepWithoutEvent_80 : decode cX5_stepWithoutEvent 80 = .ok (.getfield 41, 3) := by decide +kernel
theorem dX5_stepWithoutEvent_83 : decode cX5_stepWithoutEvent 83 = .ok (.putfield 41, 3) := by decide +kernel
theorem dX5_stepWithoutEvent_86 : decode cX5_stepWithoutEvent 86 = .ok (.goto 90, 3) := by decide +kernel
theorem dX5_stepWithoutEvent_89 : decode cX5_stepWithoutEvent 89 = .ok (.aload_n 0, 1) := by decide +kernel
theorem dX5_stepWithoutEvent_90 : decode cX5_stepWithoutEvent 90 = .ok (.iload_n 2, 1) := by decide +kernel
theorem dX5_stepWithoutEvent_91 : decode cX5_stepWithoutEvent 91 = .ok (.bipush 20, 2) := by decide +kernel
theorem dX5_stepWithoutEvent_93 : decode cX5_stepWithoutEvent 93 = .ok (.irem, 1) := by decide +kernel
theorem dX5_stepWithoutEvent_94 : decode cX5_stepWithoutEvent 94 = .ok (.putfield 41, 3) := by decide +kernel
theorem dX5_stepWithoutEvent_97 : decode cX5_stepWithoutEvent 97 = .ok (.goto 79, 3) := by decide +kernel
theorem dX5_stepWithoutEvent_100 : decode cX5_stepWithoutEvent 100 = .ok (.aload_n 0, 1) := by decide +kernel
theorem dX5_stepWithoutEvent_101 : decode cX5_stepWithoutEvent 101 = .ok (.dup, 1) := by decide +kernel
theorem dX5_stepWithoutEvent_102 : decode cX5_stepWithoutEvent 102 = .ok (.getfield 50, 3) := by decide +kernel
theorem dX5_stepWithoutEvent_105 : decode cX5_stepWithoutEvent 105 = .ok (.iload_n 2, 1) := by decide +kernel
theorem dX5_stepWithoutEvent_106 : decode cX5_stepWithoutEvent 106 = .ok (.iadd, 1) := by decide +kernel
theorem dX5_stepWithoutEvent_107 : decode cX5_stepWithoutEvent 107 = .ok (.putfield 50, 3) := by decide +kernel
theorem dX5_stepWithoutEvent_110 : decode cX5_stepWithoutEvent 110 = .ok (.goto 66, 3) := by decide +kernel
theorem dX5_stepWithoutEvent_113 : decode cX5_stepWithoutEvent 113 = .ok (.aload_n 0, 1) := by decide +kernel
theorem dX5_stepWithoutEvent_114 : decode cX5_stepWithoutEvent 114 = .ok (.dup, 1) := by decide +kernel
theorem dX5_stepWithoutEvent_115 : decode cX5_stepWithoutEvent 115 = .ok (.getfield 50, 3) := by decide +kernel
theorem dX5_stepWithoutEvent_118 : decode cX5_stepWithoutEvent 118 = .ok (.iload_n 2, 1) := by decide +kernel
theorem dX5_stepWithoutEvent_119 : decode cX5_stepWithoutEvent 119 = .ok (.isub, 1) := by decide +kernel
theorem dX5_stepWithoutEvent_120 : decode cX5_stepWithoutEvent 120 = .ok (.putfield 50, 3) := by decide +kernel
theorem dX5_stepWithoutEvent_123 : decode cX5_stepWithoutEvent 123 = .ok (.goto 53, 3) := by decide +kernel
theorem dX5_stepWithoutEvent_126 : decode cX5_stepWithoutEvent 126 = .ok (.aload_n 0, 1) := by decide +kernel
theorem dX5_stepWithoutEvent_127 : decode cX5_stepWithoutEvent 127 = .ok (.getfield 12, 3) := by decide +kernel
theorem dX5_stepWithoutEvent_130 : decode cX5_stepWithoutEvent 130 = .ok (.iload_n 2, 1) := by decide +kernel
theorem dX5_stepWithoutEvent_131 : decode cX5_stepWithoutEvent 131 = .ok (.invokevirtual 184, 3) := by decide +kernel
theorem dX5_stepWithoutEvent_134 : decode cX5_stepWithoutEvent 134 = .ok (.goto 42, 3) := by decide +kernel
theorem dX5_stepWithoutEvent_137 : decode cX5_stepWithoutEvent 137 = .ok (.aload_n 0, 1) := by decide +kernel
theorem dX5_stepWithoutEvent_138 : decode cX5_stepWithoutEvent 138 = .ok (.iconst 1, 1) := by decide +kernel
theorem dX5_stepWithoutEvent_139 : decode cX5_stepWithoutEvent 139 = .ok (.putfield 69, 3) := by decide +kernel
theorem dX5_stepWithoutEvent_142 : decode cX5_stepWithoutEvent 142 = .ok (.goto 34, 3) := by decide +kernel
theorem dX5_stepWithoutEvent_145 : decode cX5_stepWithoutEvent 145 = .ok (.aload_n 0, 1) := by decide +kernel
theorem dX5_stepWithoutEvent_146 : decode cX5_stepWithoutEvent 146 = .ok (.iconst 0, 1) := by decide +kernel
theorem dX5_stepWithoutEvent_147 : decode cX5_stepWithoutEvent 147 = .ok (.putfield 69, 3) := by decide +kernel
theorem dX5_stepWithoutEvent_150 : decode cX5_stepWithoutEvent 150 = .ok (.aload_n 0, 1) := by decide +kernel
theorem dX5_stepWithoutEvent_151 : decode cX5_stepWithoutEvent 151 = .ok (.aload_n 0, 1) := by decide +kernel
theorem dX5_stepWithoutEvent_152 : decode cX5_stepWithoutEvent 152 = .ok (.getfield 73, 3) := by decide +kernel
theorem dX5_stepWithoutEvent_155 : decode cX5_stepWithoutEvent 155 = .ok (.ifCond .eq 7, 3) := by decide +kernel
theorem dX5_stepWithoutEvent_158 : decode cX5_stepWithoutEvent 158 = .ok (.iconst 3, 1) := by decide +kernel
theorem dX5_stepWithoutEvent_159 : decode cX5_stepWithoutEvent 159 = .ok (.goto 4, 3) := by decide +kernel
theorem dX5_stepWithoutEvent_162 : decode cX5_stepWithoutEvent 162 = .ok (.iconst 0, 1) := by decide +kernel
theorem dX5_stepWithoutEvent_163 : decode cX5_stepWithoutEvent 163 = .ok (.putfield 76, 3) := by decide +kernel
theorem dX5_stepWithoutEvent_166 : decode cX5_stepWithoutEvent 166 = .ok (.goto 10, 3) := by decide +kernel
theorem dX5_stepWithoutEvent_169 : decode cX5_stepWithoutEvent 169 = .ok (.aload_n 0, 1) := by decide +kernel
theorem dX5_stepWithoutEvent_170 : decode cX5_stepWithoutEvent 170 = .ok (.invokevirtual 122, 3) := by decide +kernel
theorem dX5_stepWithoutEvent_173 : decode cX5_stepWithoutEvent 173 = .ok (.goto 3, 3) := by decide +kernel
theorem dX5_stepWithoutEvent_176 : decode cX5_stepWithoutEvent 176 = .ok (.return_, 1) := by decide +kernel
theorem dX3_push_0 : decode cX3_push 0 = .ok (.aload_n 0, 1) := by decide +kernel
theorem dX3_push_1 : decode cX3_push 1 = .ok (.getfield 15, 3) := by decide +kernel
theorem dX3_push_4 : decode cX3_push 4 = .ok (.ifCond .lt 35, 3) := by decide +kernel
theorem dX3_push_7 : decode cX3_push 7 = .ok (.aload_n 0, 1) := by decide +kernel
theorem dX3_push_8 : decode cX3_push 8 = .ok (.getfield 15, 3) := by decide +kernel
theorem dX3_push_11 : decode cX3_push 11 = .ok (.aload_n 0, 1) := by decide +kernel
theorem dX3_push_12 : decode cX3_push 12 = .ok (.getfield 9, 3) := by decide +kernel
theorem dX3_push_15 : decode cX3_push 15 = .ok (.arraylength, 1) := by decide +kernel
theorem dX3_push_16 : decode cX3_push 16 = .ok (.if_icmp .ge 23, 3) := by decide +kernel
theorem dX3_push_19 : decode cX3_push 19 = .ok (.aload_n 0, 1) := by decide +kernel
theorem dX3_push_20 : decode cX3_push 20 = .ok (.getfield 9, 3) := by decide +kernel
theorem dX3_push_23 : decode cX3_push 23 = .ok (.aload_n 0, 1) := by decide +kernel
theorem dX3_push_24 : decode cX3_push 24 = .ok (.getfield 15, 3) := by decide +kernel
theorem dX3_push_27 : decode cX3_push 27 = .ok (.iload_n 1, 1) := by decide +kernel
theorem dX3_push_28 : decode cX3_push 28 = .ok (.iastore, 1) := by decide +kernel
theorem dX3_push_29 : decode cX3_push 29 = .ok (.aload_n 0, 1) := by decide +kernel
theorem dX3_push_30 : decode cX3_push 30 = .ok (.dup, 1) := by decide +kernel
theorem dX3_push_31 : decode cX3_push 31 = .ok (.getfield 15, 3) := by decide +kernel
theorem dX3_push_34 : decode cX3_push 34 = .ok (.iconst 1, 1) := by decide +kernel
theorem dX3_push_35 : decode cX3_push 35 = .ok (.iadd, 1) := by decide +kernel
theorem dX3_push_36 : decode cX3_push 36 = .ok (.putfield 15, 3) := by decide +kernel
theorem dX3_push_39 : decode cX3_push 39 = .ok (.return_, 1) := by decide +kernel
theorem dX8_poll_0 : decode cX8_poll 0 = .ok (.aconst_null, 1) := by decide +kernel
theorem dX8_poll_1 : decode cX8_poll 1 = .ok (.astore_n 1, 1) := by decide +kernel
theorem dX8_poll_2 : decode cX8_poll 2 = .ok (.iconst 0, 1) := by decide +kernel
theorem dX8_poll_3 : decode cX8_poll 3 = .ok (.istore_n 2, 1) := by decide +kernel
theorem dX8_poll_4 : decode cX8_poll 4 = .ok (.iload_n 2, 1) := by decide +kernel
theorem dX8_poll_5 : decode cX8_poll 5 = .ok (.aload_n 0, 1) := by decide +kernel
theorem dX8_poll_6 : decode cX8_poll 6 = .ok (.getfield 96, 3) := by decide +kernel
theorem dX8_poll_9 : decode cX8_poll 9 = .ok (.if_icmp .ge 35, 3) := by decide +kernel
theorem dX8_poll_12 : decode cX8_poll 12 = .ok (.aload_n 0, 1) := by decide +kernel
theorem dX8_poll_13 : decode cX8_poll 13 = .ok (.iload_n 2, 1) := by decide +kernel
theorem dX8_poll_14 : decode cX8_poll 14 = .ok (.iconst 0, 1) := by decide +kernel
theorem dX8_poll_15 : decode cX8_poll 15 = .ok (.invokevirtual 195, 3) := by decide +kernel
theorem dX8_poll_18 : decode cX8_poll 18 = .ok (.astore_n 3, 1) := by decide +kernel
theorem dX8_poll_19 : decode cX8_poll 19 = .ok (.aload_n 3, 1) := by decide +kernel
theorem dX8_poll_20 : decode cX8_poll 20 = .ok (.ifnull 18, 3) := by decide +kernel
theorem dX8_poll_23 : decode cX8_poll 23 = .ok (.aload_n 1, 1) := by decide +kernel
theorem dX8_poll_24 : decode cX8_poll 24 = .ok (.ifnull 12, 3) := by decide +kernel
theorem dX8_poll_27 : decode cX8_poll 27 = .ok (.aload_n 0, 1) := by decide +kernel
theorem dX8_poll_28 : decode cX8_poll 28 = .ok (.aload_n 3, 1) := by decide +kernel
theorem dX8_poll_29 : decode cX8_poll 29 = .ok (.aload_n 1, 1) := by decide +kernel
theorem dX8_poll_30 : decode cX8_poll 30 = .ok (.invokevirtual 199, 3) := by decide +kernel
theorem dX8_poll_33 : decode cX8_poll 33 = .ok (.ifCond .eq 5, 3) := by decide +kernel
theorem dX8_poll_36 : decode cX8_poll 36 = .ok (.aload_n 3, 1) := by decide +kernel
theorem dX8_poll_37 : decode cX8_poll 37 = .ok (.astore_n 1, 1) := by decide +kernel
theorem dX8_poll_38 : decode cX8_poll 38 = .ok (.iinc 2 1, 3) := by decide +kernel
theorem dX8_poll_41 : decode cX8_poll 41 = .ok (.goto (-37), 3) := by decide +kernel
theorem dX8_poll_44 : decode cX8_poll 44 = .ok (.aload_n 1, 1) := by decide +kernel
theorem dX8_poll_45 : decode cX8_poll 45 = .ok (.ifnonnull 5, 3) := by decide +kernel
theorem dX8_poll_48 : decode cX8_poll 48 = .ok (.iconst (-1), 1) := by decide +kernel
theorem dX8_poll_49 : decode cX8_poll 49 = .ok (.ireturn, 1) := by decide +kernel
theorem dX8_poll_50 : decode cX8_poll 50 = .ok (.aload_n 0, 1) := by decide +kernel
theorem dX8_poll_51 : decode cX8_poll 51 = .ok (.dup, 1) := by decide +kernel
theorem dX8_poll_52 : decode cX8_poll 52 = .ok (.getfield 203, 3) := by decide +kernel
theorem dX8_poll_55 : decode cX8_poll 55 = .ok (.iconst 1, 1) := by decide +kernel
theorem dX8_poll_56 : decode cX8_poll 56 = .ok (.iadd, 1) := by decide +kernel
theorem dX8_poll_57 : decode cX8_poll 57 = .ok (.putfield 203, 3) := by decide +kernel
theorem dX8_poll_60 : decode cX8_poll 60 = .ok (.aload_n 1, 1) := by decide +kernel
theorem dX8_poll_61 : decode cX8_poll 61 = .ok (.aload_n 0, 1) := by decide +kernel
theorem dX8_poll_62 : decode cX8_poll 62 = .ok (.getfield 203, 3) := by decide +kernel
theorem dX8_poll_65 : decode cX8_poll 65 = .ok (.aload_n 0, 1) := by decide +kernel
theorem dX8_poll_66 : decode cX8_poll 66 = .ok (.getfield 206, 3) := by decide +kernel
theorem dX8_poll_69 : decode cX8_poll 69 = .ok (.bipush 6, 2) := by decide +kernel
theorem dX8_poll_71 : decode cX8_poll 71 = .ok (.iadd, 1) := by decide +kernel
theorem dX8_poll_72 : decode cX8_poll 72 = .ok (.invokevirtual 209, 3) := by decide +kernel
theorem dX8_poll_75 : decode cX8_poll 75 = .ok (.aload_n 0, 1) := by decide +kernel
theorem dX8_poll_76 : decode cX8_poll 76 = .ok (.aload_n 1, 1) := by decide +kernel
theorem dX8_poll_77 : decode cX8_poll 77 = .ok (.getfield 215, 3) := by decide +kernel
theorem dX8_poll_80 : decode cX8_poll 80 = .ok (.getfield 103, 3) := by decide +kernel
theorem dX8_poll_83 : decode cX8_poll 83 = .ok (.getfield 219, 3) := by decide +kernel
theorem dX8_poll_86 : decode cX8_poll 86 = .ok (.invokevirtual 220, 3) := by decide +kernel
theorem dX8_poll_89 : decode cX8_poll 89 = .ok (.aload_n 0, 1) := by decide +kernel
theorem dX8_poll_90 : decode cX8_poll 90 = .ok (.getfield 203, 3) := by decide +kernel
theorem dX8_poll_93 : decode cX8_poll 93 = .ok (.ireturn, 1) := by decide +kernel
theorem dX8_movingTask_0 : decode cX8_movingTask 0 = .ok (.aload_n 0, 1) := by decide +kernel
theorem dX8_movingTask_1 : decode cX8_movingTask 1 = .ok (.iload_n 1, 1) := by decide +kernel
theorem dX8_movingTask_2 : decode cX8_movingTask 2 = .ok (.invokevirtual 99, 3) := by decide +kernel
theorem dX8_movingTask_5 : decode cX8_movingTask 5 = .ok (.astore_n 3, 1) := by decide +kernel
theorem dX8_movingTask_6 : decode cX8_movingTask 6 = .ok (.aload_n 3, 1) := by decide +kernel
theorem dX8_movingTask_7 : decode cX8_movingTask 7 = .ok (.ifnull 13, 3) := by decide +kernel
theorem dX8_movingTask_10 : decode cX8_movingTask 10 = .ok (.aload_n 3, 1) := by decide +kernel
theorem dX8_movingTask_11 : decode cX8_movingTask 11 = .ok (.getfield 249, 3) := by decide +kernel
theorem dX8_movingTask_14 : decode cX8_movingTask 14 = .ok (.getfield 133, 3) := by decide +kernel
theorem dX8_movingTask_17 : decode cX8_movingTask 17 = .ok (.ifCond .eq 5, 3) := by decide +kernel
theorem dX8_movingTask_20 : decode cX8_movingTask 20 = .ok (.aconst_null, 1) := by decide +kernel
theorem dX8_movingTask_21 : decode cX8_movingTask 21 = .ok (.areturn, 1) := by decide +kernel
theorem dX8_movingTask_22 : decode cX8_movingTask 22 = .ok (.aload_n 3, 1) := by decide +kernel
theorem dX8_movingTask_23 : decode cX8_movingTask 23 = .ok (.getfield 276, 3) := by decide +kernel
theorem dX8_movingTask_26 : decode cX8_movingTask 26 = .ok (.astore 4, 2) := by decide +kernel
theorem dX8_movingTask_28 : decode cX8_movingTask 28 = .ok (.aload 4, 2) := by decide +kernel
theorem dX8_movingTask_30 : decode cX8_movingTask 30 = .ok (.ifnull 17, 3) := by decide +kernel
theorem dX8_movingTask_33 : decode cX8_movingTask 33 = .ok (.aload 4, 2) := by decide +kernel
theorem dX8_movingTask_35 : decode cX8_movingTask 35 = .ok (.getfield 280, 3) := by decide +kernel
theorem dX8_movingTask_38 : decode cX8_movingTask 38 = .ok (.iload_n 2, 1) := by decide +kernel
theorem dX8_movingTask_39 : decode cX8_movingTask 39 = .ok (.if_icmp .ne 8, 3) := by decide +kernel
theorem dX8_movingTask_42 : decode cX8_movingTask 42 = .ok (.aload 4, 2) := by decide +kernel
theorem dX8_movingTask_44 : decode cX8_movingTask 44 = .ok (.goto 4, 3) := by decide +kernel
theorem dX8_movingTask_47 : decode cX8_movingTask 47 = .ok (.aconst_null, 1) := by decide +kernel
theorem dX8_movingTask_48 : decode cX8_movingTask 48 = .ok (.areturn, 1) := by decide +kernel
theorem dX8_isAhead_0 : decode cX8_isAhead 0 = .ok (.aload_n 1, 1) := by decide +kernel
theorem dX8_isAhead_1 : decode cX8_isAhead 1 = .ok (.getfield 215, 3) := by decide +kernel
theorem dX8_isAhead_4 : decode cX8_isAhead 4 = .ok (.getfield 103, 3) := by decide +kernel
theorem dX8_isAhead_7 : decode cX8_isAhead 7 = .ok (.getfield 219, 3) := by decide +kernel
theorem dX8_isAhead_10 : decode cX8_isAhead 10 = .ok (.istore_n 3, 1) := by decide +kernel
theorem dX8_isAhead_11 : decode cX8_isAhead 11 = .ok (.aload_n 2, 1) := by decide +kernel
theorem dX8_isAhead_12 : decode cX8_isAhead 12 = .ok (.getfield 215, 3) := by decide +kernel
theorem dX8_isAhead_15 : decode cX8_isAhead 15 = .ok (.getfield 103, 3) := by decide +kernel
theorem dX8_isAhead_18 : decode cX8_isAhead 18 = .ok (.getfield 219, 3) := by decide +kernel
theorem dX8_isAhead_21 : decode cX8_isAhead 21 = .ok (.istore 4, 2) := by decide +kernel
theorem dX8_isAhead_23 : decode cX8_isAhead 23 = .ok (.iload_n 3, 1) := by decide +kernel
theorem dX8_isAhead_24 : decode cX8_isAhead 24 = .ok (.iload 4, 2) := by decide +kernel
theorem dX8_isAhead_26 : decode cX8_isAhead 26 = .ok (.if_icmp .ne 20, 3) := by decide +kernel
theorem dX8_isAhead_29 : decode cX8_isAhead 29 = .ok (.aload_n 1, 1) := by decide +kernel
theorem dX8_isAhead_30 : decode cX8_isAhead 30 = .ok (.getfield 304, 3) := by decide +kernel
theorem dX8_isAhead_33 : decode cX8_isAhead 33 = .ok (.aload_n 2, 1) := by decide +kernel
theorem dX8_isAhead_34 : decode cX8_isAhead 34 = .ok (.getfield 304, 3) := by decide +kernel
theorem dX8_isAhead_37 : decode cX8_isAhead 37 = .ok (.if_icmp .ge 7, 3) := by decide +kernel
theorem dX8_isAhead_40 : decode cX8_isAhead 40 = .ok (.iconst 1, 1) := by decide +kernel
theorem dX8_isAhead_41 : decode cX8_isAhead 41 = .ok (.goto 4, 3) := by decide +kernel
theorem dX8_isAhead_44 : decode cX8_isAhead 44 = .ok (.iconst 0, 1) := by decide +kernel
theorem dX8_isAhead_45 : decode cX8_isAhead 45 = .ok (.ireturn, 1) := by decide +kernel
theorem dX8_isAhead_46 : decode cX8_isAhead 46 = .ok (.aload_n 0, 1) := by decide +kernel
theorem dX8_isAhead_47 : decode cX8_isAhead 47 = .ok (.iload_n 3, 1) := by decide +kernel
theorem dX8_isAhead_48 : decode cX8_isAhead 48 = .ok (.invokevirtual 417, 3) := by decide +kernel
theorem dX8_isAhead_51 : decode cX8_isAhead 51 = .ok (.istore 5, 2) := by decide +kernel
theorem dX8_isAhead_53 : decode cX8_isAhead 53 = .ok (.aload_n 0, 1) := by decide +kernel
theorem dX8_isAhead_54 : decode cX8_isAhead 54 = .ok (.iload 4, 2) := by decide +kernel
theorem dX8_isAhead_56 : decode cX8_isAhead 56 = .ok (.invokevirtual 417, 3) := by decide +kernel
theorem dX8_isAhead_59 : decode cX8_isAhead 59 = .ok (.istore 6, 2) := by decide +kernel
theorem dX8_isAhead_61 : decode cX8_isAhead 61 = .ok (.iload 5, 2) := by decide +kernel
theorem dX8_isAhead_63 : decode cX8_isAhead 63 = .ok (.iload 6, 2) := by decide +kernel
theorem dX8_isAhead_65 : decode cX8_isAhead 65 = .ok (.if_icmp .lt 16, 3) := by decide +kernel
theorem dX8_isAhead_68 : decode cX8_isAhead 68 = .ok (.iload 5, 2) := by decide +kernel
theorem dX8_isAhead_70 : decode cX8_isAhead 70 = .ok (.iload 6, 2) := by decide +kernel
theorem dX8_isAhead_72 : decode cX8_isAhead 72 = .ok (.if_icmp .ne 13, 3) := by decide +kernel
theorem dX8_isAhead_75 : decode cX8_isAhead 75 = .ok (.iload_n 3, 1) := by decide +kernel
theorem dX8_isAhead_76 : decode cX8_isAhead 76 = .ok (.iload 4, 2) := by decide +kernel
theorem dX8_isAhead_78 : decode cX8_isAhead 78 = .ok (.if_icmp .ge 7, 3) := by decide +kernel
theorem dX8_isAhead_81 : decode cX8_isAhead 81 = .ok (.iconst 1, 1) := by decide +kernel
theorem dX8_isAhead_82 : decode cX8_isAhead 82 = .ok (.goto 4, 3) := by decide +kernel
theorem dX8_isAhead_85 : decode cX8_isAhead 85 = .ok (.iconst 0, 1) := by decide +kernel
theorem dX8_isAhead_86 : decode cX8_isAhead 86 = .ok (.ireturn, 1) := by decide +kernel
theorem dX8_servedAt_0 : decode cX8_servedAt 0 = .ok (.iload_n 1, 1) := by decide +kernel
theorem dX8_servedAt_1 : decode cX8_servedAt 1 = .ok (.ifCond .lt 21, 3) := by decide +kernel
theorem dX8_servedAt_4 : decode cX8_servedAt 4 = .ok (.iload_n 1, 1) := by decide +kernel
theorem dX8_servedAt_5 : decode cX8_servedAt 5 = .ok (.aload_n 0, 1) := by decide +kernel
theorem dX8_servedAt_6 : decode cX8_servedAt 6 = .ok (.getfield 15, 3) := by decide +kernel
theorem dX8_servedAt_9 : decode cX8_servedAt 9 = .ok (.arraylength, 1) := by decide +kernel
theorem dX8_servedAt_10 : decode cX8_servedAt 10 = .ok (.if_icmp .ge 12, 3) := by decide +kernel
theorem dX8_servedAt_13 : decode cX8_servedAt 13 = .ok (.aload_n 0, 1) := by decide +kernel
theorem dX8_servedAt_14 : decode cX8_servedAt 14 = .ok (.getfield 15, 3) := by decide +kernel
theorem dX8_servedAt_17 : decode cX8_servedAt 17 = .ok (.iload_n 1, 1) := by decide +kernel
theorem dX8_servedAt_18 : decode cX8_servedAt 18 = .ok (.iaload, 1) := by decide +kernel
theorem dX8_servedAt_19 : decode cX8_servedAt 19 = .ok (.goto 4, 3) := by decide +kernel
theorem dX8_servedAt_22 : decode cX8_servedAt 22 = .ok (.iconst 0, 1) := by decide +kernel
theorem dX8_servedAt_23 : decode cX8_servedAt 23 = .ok (.ireturn, 1) := by decide +kernel
theorem dX7_run_0 : decode cX7_run 0 = .ok (.aload_n 0, 1) := by decide +kernel
theorem dX7_run_1 : decode cX7_run 1 = .ok (.iconst 1, 1) := by decide +kernel
theorem dX7_run_2 : decode cX7_run 2 = .ok (.putfield 9, 3) := by decide +kernel
theorem dX7_run_5 : decode cX7_run 5 = .ok (.aload_n 0, 1) := by decide +kernel
theorem dX7_run_6 : decode cX7_run 6 = .ok (.iload_n 1, 1) := by decide +kernel
theorem dX7_run_7 : decode cX7_run 7 = .ok (.putfield 31, 3) := by decide +kernel
theorem dX7_run_10 : decode cX7_run 10 = .ok (.aload_n 0, 1) := by decide +kernel
theorem dX7_run_11 : decode cX7_run 11 = .ok (.iload_n 2, 1) := by decide +kernel
theorem dX7_run_12 : decode cX7_run 12 = .ok (.putfield 34, 3) := by decide +kernel
theorem dX7_run_15 : decode cX7_run 15 = .ok (.return_, 1) := by decide +kernel
theorem dX8_serve_0 : decode cX8_serve 0 = .ok (.iload_n 1, 1) := by decide +kernel
theorem dX8_serve_1 : decode cX8_serve 1 = .ok (.ifCond .lt 22, 3) := by decide +kernel
theorem dX8_serve_4 : decode cX8_serve 4 = .ok (.iload_n 1, 1) := by decide +kernel
theorem dX8_serve_5 : decode cX8_serve 5 = .ok (.aload_n 0, 1) := by decide +kernel
theorem dX8_serve_6 : decode cX8_serve 6 = .ok (.getfield 15, 3) := by decide +kernel
theorem dX8_serve_9 : decode cX8_serve 9 = .ok (.arraylength, 1) := by decide +kernel
theorem dX8_serve_10 : decode cX8_serve 10 = .ok (.if_icmp .ge 13, 3) := by decide +kernel
theorem dX8_serve_13 : decode cX8_serve 13 = .ok (.aload_n 0, 1) := by decide +kernel
theorem dX8_serve_14 : decode cX8_serve 14 = .ok (.getfield 15, 3) := by decide +kernel
theorem dX8_serve_17 : decode cX8_serve 17 = .ok (.iload_n 1, 1) := by decide +kernel
theorem dX8_serve_18 : decode cX8_serve 18 = .ok (.aload_n 0, 1) := by decide +kernel
theorem dX8_serve_19 : decode cX8_serve 19 = .ok (.getfield 203, 3) := by decide +kernel
theorem dX8_serve_22 : decode cX8_serve 22 = .ok (.iastore, 1) := by decide +kernel
theorem dX8_serve_23 : decode cX8_serve 23 = .ok (.return_, 1) := by decide +kernel
theorem dX8_fail_0 : decode cX8_fail 0 = .ok (.aload_n 0, 1) := by decide +kernel
theorem dX8_fail_1 : decode cX8_fail 1 = .ok (.iload_n 1, 1) := by decide +kernel
theorem dX8_fail_2 : decode cX8_fail 2 = .ok (.invokevirtual 225, 3) := by decide +kernel
theorem dX8_fail_5 : decode cX8_fail 5 = .ok (.astore_n 2, 1) := by decide +kernel
theorem dX8_fail_6 : decode cX8_fail 6 = .ok (.aload_n 2, 1) := by decide +kernel
theorem dX8_fail_7 : decode cX8_fail 7 = .ok (.ifnonnull 5, 3) := by decide +kernel
theorem dX8_fail_10 : decode cX8_fail 10 = .ok (.iconst 0, 1) := by decide +kernel
theorem dX8_fail_11 : decode cX8_fail 11 = .ok (.ireturn, 1) := by decide +kernel
theorem dX8_fail_12 : decode cX8_fail 12 = .ok (.aload_n 2, 1) := by decide +kernel
theorem dX8_fail_13 : decode cX8_fail 13 = .ok (.aload_n 0, 1) := by decide +kernel
theorem dX8_fail_14 : decode cX8_fail 14 = .ok (.getfield 206, 3) := by decide +kernel
theorem dX8_fail_17 : decode cX8_fail 17 = .ok (.invokevirtual 232, 3) := by decide +kernel
theorem dX8_fail_20 : decode cX8_fail 20 = .ok (.aload_n 0, 1) := by decide +kernel
theorem dX8_fail_21 : decode cX8_fail 21 = .ok (.aload_n 2, 1) := by decide +kernel
theorem dX8_fail_22 : decode cX8_fail 22 = .ok (.getfield 215, 3) := by decide +kernel
theorem dX8_fail_25 : decode cX8_fail 25 = .ok (.invokevirtual 111, 3) := by decide +kernel
theorem dX8_fail_28 : decode cX8_fail 28 = .ok (.iconst 1, 1) := by decide +kernel
theorem dX8_fail_29 : decode cX8_fail 29 = .ok (.ireturn, 1) := by decide +kernel
theorem dX8_runningTask_0 : decode cX8_runningTask 0 = .ok (.iconst 0, 1) := by decide +kernel
theorem dX8_runningTask_1 : decode cX8_runningTask 1 = .ok (.istore_n 2, 1) := by decide +kernel
theorem dX8_runningTask_2 : decode cX8_runningTask 2 = .ok (.iload_n 2, 1) := by decide +kernel
theorem dX8_runningTask_3 : decode cX8_runningTask 3 = .ok (.aload_n 0, 1) := by decide +kernel
theorem dX8_runningTask_4 : decode cX8_runningTask 4 = .ok (.getfield 96, 3) := by decide +kernel
theorem dX8_runningTask_7 : decode cX8_runningTask 7 = .ok (.if_icmp .ge 30, 3) := by decide +kernel
theorem dX8_runningTask_10 : decode cX8_runningTask 10 = .ok (.aload_n 0, 1) := by decide +kernel
theorem dX8_runningTask_11 : decode cX8_runningTask 11 = .ok (.iload_n 2, 1) := by decide +kernel
theorem dX8_runningTask_12 : decode cX8_runningTask 12 = .ok (.iconst 1, 1) := by decide +kernel
theorem dX8_runningTask_13 : decode cX8_runningTask 13 = .ok (.invokevirtual 195, 3) := by decide +kernel
theorem dX8_runningTask_16 : decode cX8_runningTask 16 = .ok (.astore_n 3, 1) := by decide +kernel
theorem dX8_runningTask_17 : decode cX8_runningTask 17 = .ok (.aload_n 3, 1) := by decide +kernel
theorem dX8_runningTask_18 : decode cX8_runningTask 18 = .ok (.ifnull 13, 3) := by decide +kernel
theorem dX8_runningTask_21 : decode cX8_runningTask 21 = .ok (.aload_n 3, 1) := by decide +kernel
theorem dX8_runningTask_22 : decode cX8_runningTask 22 = .ok (.getfield 283, 3) := by decide +kernel
theorem dX8_runningTask_25 : decode cX8_runningTask 25 = .ok (.iload_n 1, 1) := by decide +kernel
theorem dX8_runningTask_26 : decode cX8_runningTask 26 = .ok (.if_icmp .ne 5, 3) := by decide +kernel
theorem dX8_runningTask_29 : decode cX8_runningTask 29 = .ok (.aload_n 3, 1) := by decide +kernel
theorem dX8_runningTask_30 : decode cX8_runningTask 30 = .ok (.areturn, 1) := by decide +kernel
theorem dX8_runningTask_31 : decode cX8_runningTask 31 = .ok (.iinc 2 1, 3) := by decide +kernel
theorem dX8_runningTask_34 : decode cX8_runningTask 34 = .ok (.goto (-32), 3) := by decide +kernel
theorem dX8_runningTask_37 : decode cX8_runningTask 37 = .ok (.aconst_null, 1) := by decide +kernel
theorem dX8_runningTask_38 : decode cX8_runningTask 38 = .ok (.areturn, 1) := by decide +kernel
theorem dX7_loseTry_0 : decode cX7_loseTry 0 = .ok (.aload_n 0, 1) := by decide +kernel
theorem dX7_loseTry_1 : decode cX7_loseTry 1 = .ok (.dup, 1) := by decide +kernel
theorem dX7_loseTry_2 : decode cX7_loseTry 2 = .ok (.getfield 28, 3) := by decide +kernel
theorem dX7_loseTry_5 : decode cX7_loseTry 5 = .ok (.iconst 1, 1) := by decide +kernel
theorem dX7_loseTry_6 : decode cX7_loseTry 6 = .ok (.iadd, 1) := by decide +kernel
theorem dX7_loseTry_7 : decode cX7_loseTry 7 = .ok (.putfield 28, 3) := by decide +kernel
theorem dX7_loseTry_10 : decode cX7_loseTry 10 = .ok (.aload_n 0, 1) := by decide +kernel
theorem dX7_loseTry_11 : decode cX7_loseTry 11 = .ok (.getfield 28, 3) := by decide +kernel
theorem dX7_loseTry_14 : decode cX7_loseTry 14 = .ok (.iconst 3, 1) := by decide +kernel
theorem dX7_loseTry_15 : decode cX7_loseTry 15 = .ok (.if_icmp .lt 10, 3) := by decide +kernel
theorem dX7_loseTry_18 : decode cX7_loseTry 18 = .ok (.aload_n 0, 1) := by decide +kernel
theorem dX7_loseTry_19 : decode cX7_loseTry 19 = .ok (.iconst 3, 1) := by decide +kernel
theorem dX7_loseTry_20 : decode cX7_loseTry 20 = .ok (.iconst 0, 1) := by decide +kernel
theorem dX7_loseTry_21 : decode cX7_loseTry 21 = .ok (.invokevirtual 54, 3) := by decide +kernel
theorem dX7_loseTry_24 : decode cX7_loseTry 24 = .ok (.return_, 1) := by decide +kernel
theorem dX7_loseTry_25 : decode cX7_loseTry 25 = .ok (.aload_n 0, 1) := by decide +kernel
theorem dX7_loseTry_26 : decode cX7_loseTry 26 = .ok (.iconst 2, 1) := by decide +kernel
theorem dX7_loseTry_27 : decode cX7_loseTry 27 = .ok (.putfield 9, 3) := by decide +kernel
theorem dX7_loseTry_30 : decode cX7_loseTry 30 = .ok (.aload_n 0, 1) := by decide +kernel
theorem dX7_loseTry_31 : decode cX7_loseTry 31 = .ok (.iload_n 1, 1) := by decide +kernel
theorem dX7_loseTry_32 : decode cX7_loseTry 32 = .ok (.iconst 1, 1) := by decide +kernel
theorem dX7_loseTry_33 : decode cX7_loseTry 33 = .ok (.aload_n 0, 1) := by decide +kernel
theorem dX7_loseTry_34 : decode cX7_loseTry 34 = .ok (.getfield 28, 3) := by decide +kernel
theorem dX7_loseTry_37 : decode cX7_loseTry 37 = .ok (.ishl, 1) := by decide +kernel
theorem dX7_loseTry_38 : decode cX7_loseTry 38 = .ok (.iadd, 1) := by decide +kernel
theorem dX7_loseTry_39 : decode cX7_loseTry 39 = .ok (.putfield 34, 3) := by decide +kernel
theorem dX7_loseTry_42 : decode cX7_loseTry 42 = .ok (.return_, 1) := by decide +kernel
theorem dX7_finish_0 : decode cX7_finish 0 = .ok (.aload_n 0, 1) := by decide +kernel
theorem dX7_finish_1 : decode cX7_finish 1 = .ok (.invokevirtual 41, 3) := by decide +kernel
theorem dX7_finish_4 : decode cX7_finish 4 = .ok (.aload_n 0, 1) := by decide +kernel
theorem dX7_finish_5 : decode cX7_finish 5 = .ok (.getfield 18, 3) := by decide +kernel
theorem dX7_finish_8 : decode cX7_finish 8 = .ok (.getfield 44, 3) := by decide +kernel
theorem dX7_finish_11 : decode cX7_finish 11 = .ok (.iload_n 1, 1) := by decide +kernel
theorem dX7_finish_12 : decode cX7_finish 12 = .ok (.iload_n 2, 1) := by decide +kernel
theorem dX7_finish_13 : decode cX7_finish 13 = .ok (.i2l, 1) := by decide +kernel
theorem dX7_finish_14 : decode cX7_finish 14 = .ok (.invokevirtual 48, 3) := by decide +kernel
theorem dX7_finish_17 : decode cX7_finish 17 = .ok (.return_, 1) := by decide +kernel
theorem dX7_close_0 : decode cX7_close 0 = .ok (.aload_n 0, 1) := by decide +kernel
theorem dX7_close_1 : decode cX7_close 1 = .ok (.iconst 3, 1) := by decide +kernel
theorem dX7_close_2 : decode cX7_close 2 = .ok (.putfield 9, 3) := by decide +kernel
theorem dX7_close_5 : decode cX7_close 5 = .ok (.aload_n 0, 1) := by decide +kernel
theorem dX7_close_6 : decode cX7_close 6 = .ok (.iconst 0, 1) := by decide +kernel
theorem dX7_close_7 : decode cX7_close 7 = .ok (.putfield 34, 3) := by decide +kernel
theorem dX7_close_10 : decode cX7_close 10 = .ok (.aload_n 0, 1) := by decide +kernel
theorem dX7_close_11 : decode cX7_close 11 = .ok (.getfield 18, 3) := by decide +kernel
theorem dX7_close_14 : decode cX7_close 14 = .ok (.aconst_null, 1) := by decide +kernel
theorem dX7_close_15 : decode cX7_close 15 = .ok (.putfield 37, 3) := by decide +kernel
theorem dX7_close_18 : decode cX7_close 18 = .ok (.return_, 1) := by decide +kernel
theorem dX1_add_0 : decode cX1_add 0 = .ok (.aload_n 0, 1) := by decide +kernel
theorem dX1_add_1 : decode cX1_add 1 = .ok (.getfield 19, 3) := by decide +kernel
theorem dX1_add_4 : decode cX1_add 4 = .ok (.ifCond .lt 58, 3) := by decide +kernel
theorem dX1_add_7 : decode cX1_add 7 = .ok (.aload_n 0, 1) := by decide +kernel
theorem dX1_add_8 : decode cX1_add 8 = .ok (.getfield 19, 3) := by decide +kernel
theorem dX1_add_11 : decode cX1_add 11 = .ok (.aload_n 0, 1) := by decide +kernel
theorem dX1_add_12 : decode cX1_add 12 = .ok (.getfield 9, 3) := by decide +kernel
theorem dX1_add_15 : decode cX1_add 15 = .ok (.arraylength, 1) := by decide +kernel
theorem dX1_add_16 : decode cX1_add 16 = .ok (.if_icmp .ge 46, 3) := by decide +kernel
theorem dX1_add_19 : decode cX1_add 19 = .ok (.aload_n 0, 1) := by decide +kernel
theorem dX1_add_20 : decode cX1_add 20 = .ok (.getfield 19, 3) := by decide +kernel
theorem dX1_add_23 : decode cX1_add 23 = .ok (.aload_n 0, 1) := by decide +kernel
theorem dX1_add_24 : decode cX1_add 24 = .ok (.getfield 15, 3) := by decide +kernel
theorem dX1_add_27 : decode cX1_add 27 = .ok (.arraylength, 1) := by decide +kernel
theorem dX1_add_28 : decode cX1_add 28 = .ok (.if_icmp .ge 34, 3) := by decide +kernel
theorem dX1_add_31 : decode cX1_add 31 = .ok (.aload_n 0, 1) := by decide +kernel
theorem dX1_add_32 : decode cX1_add 32 = .ok (.getfield 9, 3) := by decide +kernel
theorem dX1_add_35 : decode cX1_add 35 = .ok (.aload_n 0, 1) := by decide +kernel
theorem dX1_add_36 : decode cX1_add 36 = .ok (.getfield 19, 3) := by decide +kernel
theorem dX1_add_39 : decode cX1_add 39 = .ok (.iload_n 1, 1) := by decide +kernel
theorem dX1_add_40 : decode cX1_add 40 = .ok (.i2b, 1) := by decide +kernel
theorem dX1_add_41 : decode cX1_add 41 = .ok (.bastore, 1) := by decide +kernel
theorem dX1_add_42 : decode cX1_add 42 = .ok (.aload_n 0, 1) := by decide +kernel
theorem dX1_add_43 : decode cX1_add 43 = .ok (.getfield 15, 3) := by decide +kernel
theorem dX1_add_46 : decode cX1_add 46 = .ok (.aload_n 0, 1) := by decide +kernel
theorem dX1_add_47 : decode cX1_add 47 = .ok (.getfield 19, 3) := by decide +kernel
theorem dX1_add_50 : decode cX1_add 50 = .ok (.lload_n 2, 1) := by decide +kernel
theorem dX1_add_51 : decode cX1_add 51 = .ok (.lastore, 1) := by decide +kernel
theorem dX1_add_52 : decode cX1_add 52 = .ok (.aload_n 0, 1) := by decide +kernel
theorem dX1_add_53 : decode cX1_add 53 = .ok (.dup, 1) := by decide +kernel
theorem dX1_add_54 : decode cX1_add 54 = .ok (.getfield 19, 3) := by decide +kernel
theorem dX1_add_57 : decode cX1_add 57 = .ok (.iconst 1, 1) := by decide +kernel
theorem dX1_add_58 : decode cX1_add 58 = .ok (.iadd, 1) := by decide +kernel
theorem dX1_add_59 : decode cX1_add 59 = .ok (.putfield 19, 3) := by decide +kernel
theorem dX1_add_62 : decode cX1_add 62 = .ok (.return_, 1) := by decide +kernel
theorem dX8_goOn_0 : decode cX8_goOn 0 = .ok (.aload_n 0, 1) := by decide +kernel
theorem dX8_goOn_1 : decode cX8_goOn 1 = .ok (.getfield 35, 3) := by decide +kernel
theorem dX8_goOn_4 : decode cX8_goOn 4 = .ok (.aload_n 1, 1) := by decide +kernel
theorem dX8_goOn_5 : decode cX8_goOn 5 = .ok (.invokevirtual 337, 3) := by decide +kernel
theorem dX8_goOn_8 : decode cX8_goOn 8 = .ok (.iconst 0, 1) := by decide +kernel
theorem dX8_goOn_9 : decode cX8_goOn 9 = .ok (.istore_n 2, 1) := by decide +kernel
theorem dX8_goOn_10 : decode cX8_goOn 10 = .ok (.iload_n 2, 1) := by decide +kernel
theorem dX8_goOn_11 : decode cX8_goOn 11 = .ok (.ldc_w 340, 3) := by decide +kernel
theorem dX8_goOn_14 : decode cX8_goOn 14 = .ok (.if_icmp .ge 112, 3) := by decide +kernel
theorem dX8_goOn_17 : decode cX8_goOn 17 = .ok (.aload_n 0, 1) := by decide +kernel
theorem dX8_goOn_18 : decode cX8_goOn 18 = .ok (.getfield 35, 3) := by decide +kernel
theorem dX8_goOn_21 : decode cX8_goOn 21 = .ok (.invokevirtual 341, 3) := by decide +kernel
theorem dX8_goOn_24 : decode cX8_goOn 24 = .ok (.ifCond .eq 17, 3) := by decide +kernel
theorem dX8_goOn_27 : decode cX8_goOn 27 = .ok (.aload_n 0, 1) := by decide +kernel
