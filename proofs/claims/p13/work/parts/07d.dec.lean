theorem dX9_steps_1040 : decode cX9_steps 1040 = .ok (.goto 9, 3) := by decide +kernel
theorem dX9_steps_1043 : decode cX9_steps 1043 = .ok (.aload_n 0, 1) := by decide +kernel
theorem dX9_steps_1044 : decode cX9_steps 1044 = .ok (.getfield 29, 3) := by decide +kernel
theorem dX9_steps_1047 : decode cX9_steps 1047 = .ok (.iload_n 1, 1) := by decide +kernel
theorem dX9_steps_1048 : decode cX9_steps 1048 = .ok (.iaload, 1) := by decide +kernel
theorem dX9_steps_1049 : decode cX9_steps 1049 = .ok (.invokevirtual 207, 3) := by decide +kernel
theorem dX9_steps_1052 : decode cX9_steps 1052 = .ok (.istore 10, 2) := by decide +kernel
theorem dX9_steps_1054 : decode cX9_steps 1054 = .ok (.aload_n 0, 1) := by decide +kernel
theorem dX9_steps_1055 : decode cX9_steps 1055 = .ok (.iload 10, 2) := by decide +kernel
theorem dX9_steps_1057 : decode cX9_steps 1057 = .ok (.ifCond .ne 10, 3) := by decide +kernel
theorem dX9_steps_1060 : decode cX9_steps 1060 = .ok (.aload_n 0, 1) := by decide +kernel
theorem dX9_steps_1061 : decode cX9_steps 1061 = .ok (.getfield 131, 3) := by decide +kernel
theorem dX9_steps_1064 : decode cX9_steps 1064 = .ok (.goto 18, 3) := by decide +kernel
theorem dX9_steps_1067 : decode cX9_steps 1067 = .ok (.aload_n 0, 1) := by decide +kernel
theorem dX9_steps_1068 : decode cX9_steps 1068 = .ok (.iload_n 1, 1) := by decide +kernel
theorem dX9_steps_1069 : decode cX9_steps 1069 = .ok (.invokevirtual 200, 3) := by decide +kernel
theorem dX9_steps_1072 : decode cX9_steps 1072 = .ok (.lconst 0, 1) := by decide +kernel
theorem dX9_steps_1073 : decode cX9_steps 1073 = .ok (.lcmp, 1) := by decide +kernel
theorem dX9_steps_1074 : decode cX9_steps 1074 = .ok (.ifCond .ge 7, 3) := by decide +kernel
theorem dX9_steps_1077 : decode cX9_steps 1077 = .ok (.iconst 2, 1) := by decide +kernel
theorem dX9_steps_1078 : decode cX9_steps 1078 = .ok (.goto 4, 3) := by decide +kernel
theorem dX9_steps_1081 : decode cX9_steps 1081 = .ok (.iconst 4, 1) := by decide +kernel
theorem dX9_steps_1082 : decode cX9_steps 1082 = .ok (.putfield 131, 3) := by decide +kernel
theorem dX9_steps_1085 : decode cX9_steps 1085 = .ok (.iload 10, 2) := by decide +kernel
theorem dX9_steps_1087 : decode cX9_steps 1087 = .ok (.ifCond .ne 26, 3) := by decide +kernel
theorem dX9_steps_1090 : decode cX9_steps 1090 = .ok (.aload_n 0, 1) := by decide +kernel
theorem dX9_steps_1091 : decode cX9_steps 1091 = .ok (.getfield 103, 3) := by decide +kernel
theorem dX9_steps_1094 : decode cX9_steps 1094 = .ok (.ifCond .eq 19, 3) := by decide +kernel
theorem dX9_steps_1097 : decode cX9_steps 1097 = .ok (.aload_n 0, 1) := by decide +kernel
theorem dX9_steps_1098 : decode cX9_steps 1098 = .ok (.iload 8, 2) := by decide +kernel
theorem dX9_steps_1100 : decode cX9_steps 1100 = .ok (.putfield 110, 3) := by decide +kernel
theorem dX9_steps_1103 : decode cX9_steps 1103 = .ok (.aload_n 0, 1) := by decide +kernel
theorem dX9_steps_1104 : decode cX9_steps 1104 = .ok (.dup, 1) := by decide +kernel
theorem dX9_steps_1105 : decode cX9_steps 1105 = .ok (.getfield 137, 3) := by decide +kernel
theorem dX9_steps_1108 : decode cX9_steps 1108 = .ok (.iconst 1, 1) := by decide +kernel
theorem dX9_steps_1109 : decode cX9_steps 1109 = .ok (.isub, 1) := by decide +kernel
theorem dX9_steps_1110 : decode cX9_steps 1110 = .ok (.putfield 137, 3) := by decide +kernel
theorem dX9_steps_1113 : decode cX9_steps 1113 = .ok (.iload 10, 2) := by decide +kernel
theorem dX9_steps_1115 : decode cX9_steps 1115 = .ok (.ireturn, 1) := by decide +kernel
theorem dX9_isBounded_0 : decode cX9_isBounded 0 = .ok (.iload_n 0, 1) := by decide +kernel
theorem dX9_isBounded_1 : decode cX9_isBounded 1 = .ok (.iconst 1, 1) := by decide +kernel
theorem dX9_isBounded_2 : decode cX9_isBounded 2 = .ok (.if_icmp .eq 43, 3) := by decide +kernel
theorem dX9_isBounded_5 : decode cX9_isBounded 5 = .ok (.iload_n 0, 1) := by decide +kernel
theorem dX9_isBounded_6 : decode cX9_isBounded 6 = .ok (.iconst 2, 1) := by decide +kernel
theorem dX9_isBounded_7 : decode cX9_isBounded 7 = .ok (.if_icmp .eq 38, 3) := by decide +kernel
theorem dX9_isBounded_10 : decode cX9_isBounded 10 = .ok (.iload_n 0, 1) := by decide +kernel
theorem dX9_isBounded_11 : decode cX9_isBounded 11 = .ok (.iconst 4, 1) := by decide +kernel
theorem dX9_isBounded_12 : decode cX9_isBounded 12 = .ok (.if_icmp .eq 33, 3) := by decide +kernel
theorem dX9_isBounded_15 : decode cX9_isBounded 15 = .ok (.iload_n 0, 1) := by decide +kernel
theorem dX9_isBounded_16 : decode cX9_isBounded 16 = .ok (.bipush 9, 2) := by decide +kernel
theorem dX9_isBounded_18 : decode cX9_isBounded 18 = .ok (.if_icmp .eq 27, 3) := by decide +kernel
theorem dX9_isBounded_21 : decode cX9_isBounded 21 = .ok (.iload_n 0, 1) := by decide +kernel
theorem dX9_isBounded_22 : decode cX9_isBounded 22 = .ok (.bipush 10, 2) := by decide +kernel
theorem dX9_isBounded_24 : decode cX9_isBounded 24 = .ok (.if_icmp .eq 21, 3) := by decide +kernel
theorem dX9_isBounded_27 : decode cX9_isBounded 27 = .ok (.iload_n 0, 1) := by decide +kernel
theorem dX9_isBounded_28 : decode cX9_isBounded 28 = .ok (.bipush 11, 2) := by decide +kernel
theorem dX9_isBounded_30 : decode cX9_isBounded 30 = .ok (.if_icmp .eq 15, 3) := by decide +kernel
theorem dX9_isBounded_33 : decode cX9_isBounded 33 = .ok (.iload_n 0, 1) := by decide +kernel
theorem dX9_isBounded_34 : decode cX9_isBounded 34 = .ok (.bipush 14, 2) := by decide +kernel
theorem dX9_isBounded_36 : decode cX9_isBounded 36 = .ok (.if_icmp .eq 9, 3) := by decide +kernel
theorem dX9_isBounded_39 : decode cX9_isBounded 39 = .ok (.iload_n 0, 1) := by decide +kernel
theorem dX9_isBounded_40 : decode cX9_isBounded 40 = .ok (.bipush 17, 2) := by decide +kernel
theorem dX9_isBounded_42 : decode cX9_isBounded 42 = .ok (.if_icmp .ne 7, 3) := by decide +kernel
theorem dX9_isBounded_45 : decode cX9_isBounded 45 = .ok (.iconst 1, 1) := by decide +kernel
theorem dX9_isBounded_46 : decode cX9_isBounded 46 = .ok (.goto 4, 3) := by decide +kernel
theorem dX9_isBounded_49 : decode cX9_isBounded 49 = .ok (.iconst 0, 1) := by decide +kernel
theorem dX9_isBounded_50 : decode cX9_isBounded 50 = .ok (.ireturn, 1) := by decide +kernel
theorem dX9_latestNumber_0 : decode cX9_latestNumber 0 = .ok (.aload_n 0, 1) := by decide +kernel
theorem dX9_latestNumber_1 : decode cX9_latestNumber 1 = .ok (.getfield 47, 3) := by decide +kernel
theorem dX9_latestNumber_4 : decode cX9_latestNumber 4 = .ok (.sipush 160, 3) := by decide +kernel
theorem dX9_latestNumber_7 : decode cX9_latestNumber 7 = .ok (.iload_n 1, 1) := by decide +kernel
theorem dX9_latestNumber_8 : decode cX9_latestNumber 8 = .ok (.imul, 1) := by decide +kernel
theorem dX9_latestNumber_9 : decode cX9_latestNumber 9 = .ok (.aload_n 0, 1) := by decide +kernel
theorem dX9_latestNumber_10 : decode cX9_latestNumber 10 = .ok (.getfield 107, 3) := by decide +kernel
theorem dX9_latestNumber_13 : decode cX9_latestNumber 13 = .ok (.iadd, 1) := by decide +kernel
theorem dX9_latestNumber_14 : decode cX9_latestNumber 14 = .ok (.iconst 1, 1) := by decide +kernel
theorem dX9_latestNumber_15 : decode cX9_latestNumber 15 = .ok (.isub, 1) := by decide +kernel
theorem dX9_latestNumber_16 : decode cX9_latestNumber 16 = .ok (.laload, 1) := by decide +kernel
theorem dX9_latestNumber_17 : decode cX9_latestNumber 17 = .ok (.lreturn, 1) := by decide +kernel
theorem dX9_starts_0 : decode cX9_starts 0 = .ok (.aload_n 0, 1) := by decide +kernel
theorem dX9_starts_1 : decode cX9_starts 1 = .ok (.getfield 107, 3) := by decide +kernel
theorem dX9_starts_4 : decode cX9_starts 4 = .ok (.iload_n 2, 1) := by decide +kernel
theorem dX9_starts_5 : decode cX9_starts 5 = .ok (.if_icmp .ge 15, 3) := by decide +kernel
theorem dX9_starts_8 : decode cX9_starts 8 = .ok (.aload_n 0, 1) := by decide +kernel
theorem dX9_starts_9 : decode cX9_starts 9 = .ok (.iload_n 1, 1) := by decide +kernel
theorem dX9_starts_10 : decode cX9_starts 10 = .ok (.iload_n 2, 1) := by decide +kernel
theorem dX9_starts_11 : decode cX9_starts 11 = .ok (.iload_n 3, 1) := by decide +kernel
theorem dX9_starts_12 : decode cX9_starts 12 = .ok (.iload 4, 2) := by decide +kernel
theorem dX9_starts_14 : decode cX9_starts 14 = .ok (.lconst 0, 1) := by decide +kernel
theorem dX9_starts_15 : decode cX9_starts 15 = .ok (.iconst 1, 1) := by decide +kernel
theorem dX9_starts_16 : decode cX9_starts 16 = .ok (.invokevirtual 164, 3) := by decide +kernel
theorem dX9_starts_19 : decode cX9_starts 19 = .ok (.ireturn, 1) := by decide +kernel
theorem dX9_starts_20 : decode cX9_starts 20 = .ok (.iload_n 3, 1) := by decide +kernel
theorem dX9_starts_21 : decode cX9_starts 21 = .ok (.ifCond .eq 43, 3) := by decide +kernel
theorem dX9_starts_24 : decode cX9_starts 24 = .ok (.aload_n 0, 1) := by decide +kernel
theorem dX9_starts_25 : decode cX9_starts 25 = .ok (.aload_n 0, 1) := by decide +kernel
theorem dX9_starts_26 : decode cX9_starts 26 = .ok (.iload 5, 2) := by decide +kernel
theorem dX9_starts_28 : decode cX9_starts 28 = .ok (.aload_n 0, 1) := by decide +kernel
theorem dX9_starts_29 : decode cX9_starts 29 = .ok (.getfield 113, 3) := by decide +kernel
theorem dX9_starts_32 : decode cX9_starts 32 = .ok (.iload 6, 2) := by decide +kernel
theorem dX9_starts_34 : decode cX9_starts 34 = .ok (.iload 7, 2) := by decide +kernel
theorem dX9_starts_36 : decode cX9_starts 36 = .ok (.invokevirtual 168, 3) := by decide +kernel
theorem dX9_starts_39 : decode cX9_starts 39 = .ok (.putfield 172, 3) := by decide +kernel
theorem dX9_starts_42 : decode cX9_starts 42 = .ok (.aload_n 0, 1) := by decide +kernel
theorem dX9_starts_43 : decode cX9_starts 43 = .ok (.iload_n 1, 1) := by decide +kernel
theorem dX9_starts_44 : decode cX9_starts 44 = .ok (.iload 4, 2) := by decide +kernel
theorem dX9_starts_46 : decode cX9_starts 46 = .ok (.aload_n 0, 1) := by decide +kernel
theorem dX9_starts_47 : decode cX9_starts 47 = .ok (.getfield 172, 3) := by decide +kernel
theorem dX9_starts_50 : decode cX9_starts 50 = .ok (.i2l, 1) := by decide +kernel
theorem dX9_starts_51 : decode cX9_starts 51 = .ok (.invokevirtual 143, 3) := by decide +kernel
theorem dX9_starts_54 : decode cX9_starts 54 = .ok (.aload_n 0, 1) := by decide +kernel
theorem dX9_starts_55 : decode cX9_starts 55 = .ok (.dup, 1) := by decide +kernel
theorem dX9_starts_56 : decode cX9_starts 56 = .ok (.getfield 107, 3) := by decide +kernel
theorem dX9_starts_59 : decode cX9_starts 59 = .ok (.iconst 1, 1) := by decide +kernel
theorem dX9_starts_60 : decode cX9_starts 60 = .ok (.iadd, 1) := by decide +kernel
theorem dX9_starts_61 : decode cX9_starts 61 = .ok (.putfield 107, 3) := by decide +kernel
theorem dX9_starts_64 : decode cX9_starts 64 = .ok (.iload_n 3, 1) := by decide +kernel
theorem dX9_starts_65 : decode cX9_starts 65 = .ok (.ireturn, 1) := by decide +kernel
theorem dX9_begets_0 : decode cX9_begets 0 = .ok (.aload_n 0, 1) := by decide +kernel
theorem dX9_begets_1 : decode cX9_begets 1 = .ok (.getfield 93, 3) := by decide +kernel
theorem dX9_begets_4 : decode cX9_begets 4 = .ok (.bipush 40, 2) := by decide +kernel
theorem dX9_begets_6 : decode cX9_begets 6 = .ok (.if_icmp .ne 5, 3) := by decide +kernel
theorem dX9_begets_9 : decode cX9_begets 9 = .ok (.iconst (-1), 1) := by decide +kernel
theorem dX9_begets_10 : decode cX9_begets 10 = .ok (.ireturn, 1) := by decide +kernel
theorem dX9_begets_11 : decode cX9_begets 11 = .ok (.aload_n 0, 1) := by decide +kernel
theorem dX9_begets_12 : decode cX9_begets 12 = .ok (.getfield 93, 3) := by decide +kernel
theorem dX9_begets_15 : decode cX9_begets 15 = .ok (.istore 5, 2) := by decide +kernel
theorem dX9_begets_17 : decode cX9_begets 17 = .ok (.aload_n 0, 1) := by decide +kernel
theorem dX9_begets_18 : decode cX9_begets 18 = .ok (.dup, 1) := by decide +kernel
theorem dX9_begets_19 : decode cX9_begets 19 = .ok (.getfield 93, 3) := by decide +kernel
theorem dX9_begets_22 : decode cX9_begets 22 = .ok (.iconst 1, 1) := by decide +kernel
theorem dX9_begets_23 : decode cX9_begets 23 = .ok (.iadd, 1) := by decide +kernel
theorem dX9_begets_24 : decode cX9_begets 24 = .ok (.putfield 93, 3) := by decide +kernel
theorem dX9_begets_27 : decode cX9_begets 27 = .ok (.aload_n 0, 1) := by decide +kernel
theorem dX9_begets_28 : decode cX9_begets 28 = .ok (.getfield 23, 3) := by decide +kernel
theorem dX9_begets_31 : decode cX9_begets 31 = .ok (.iload 5, 2) := by decide +kernel
theorem dX9_begets_33 : decode cX9_begets 33 = .ok (.iload_n 1, 1) := by decide +kernel
theorem dX9_begets_34 : decode cX9_begets 34 = .ok (.iastore, 1) := by decide +kernel
theorem dX9_begets_35 : decode cX9_begets 35 = .ok (.aload_n 0, 1) := by decide +kernel
theorem dX9_begets_36 : decode cX9_begets 36 = .ok (.getfield 26, 3) := by decide +kernel
theorem dX9_begets_39 : decode cX9_begets 39 = .ok (.iload 5, 2) := by decide +kernel
theorem dX9_begets_41 : decode cX9_begets 41 = .ok (.iload_n 3, 1) := by decide +kernel
theorem dX9_begets_42 : decode cX9_begets 42 = .ok (.iastore, 1) := by decide +kernel
theorem dX9_begets_43 : decode cX9_begets 43 = .ok (.aload_n 0, 1) := by decide +kernel
theorem dX9_begets_44 : decode cX9_begets 44 = .ok (.getfield 29, 3) := by decide +kernel
theorem dX9_begets_47 : decode cX9_begets 47 = .ok (.iload 5, 2) := by decide +kernel
theorem dX9_begets_49 : decode cX9_begets 49 = .ok (.iload 4, 2) := by decide +kernel
theorem dX9_begets_51 : decode cX9_begets 51 = .ok (.iconst (-1), 1) := by decide +kernel
theorem dX9_begets_52 : decode cX9_begets 52 = .ok (.if_icmp .ne 8, 3) := by decide +kernel
theorem dX9_begets_55 : decode cX9_begets 55 = .ok (.iload 5, 2) := by decide +kernel
theorem dX9_begets_57 : decode cX9_begets 57 = .ok (.goto 5, 3) := by decide +kernel
theorem dX9_begets_60 : decode cX9_begets 60 = .ok (.iload 4, 2) := by decide +kernel
theorem dX9_begets_62 : decode cX9_begets 62 = .ok (.iastore, 1) := by decide +kernel
theorem dX9_begets_63 : decode cX9_begets 63 = .ok (.aload_n 0, 1) := by decide +kernel
theorem dX9_begets_64 : decode cX9_begets 64 = .ok (.getfield 41, 3) := by decide +kernel
theorem dX9_begets_67 : decode cX9_begets 67 = .ok (.iload 5, 2) := by decide +kernel
theorem dX9_begets_69 : decode cX9_begets 69 = .ok (.iconst (-1), 1) := by decide +kernel
theorem dX9_begets_70 : decode cX9_begets 70 = .ok (.iastore, 1) := by decide +kernel
theorem dX9_begets_71 : decode cX9_begets 71 = .ok (.aload_n 0, 1) := by decide +kernel
theorem dX9_begets_72 : decode cX9_begets 72 = .ok (.iload 5, 2) := by decide +kernel
theorem dX9_begets_74 : decode cX9_begets 74 = .ok (.iconst 0, 1) := by decide +kernel
theorem dX9_begets_75 : decode cX9_begets 75 = .ok (.iload_n 2, 1) := by decide +kernel
theorem dX9_begets_76 : decode cX9_begets 76 = .ok (.i2l, 1) := by decide +kernel
theorem dX9_begets_77 : decode cX9_begets 77 = .ok (.invokevirtual 143, 3) := by decide +kernel
theorem dX9_begets_80 : decode cX9_begets 80 = .ok (.iload 5, 2) := by decide +kernel
theorem dX9_begets_82 : decode cX9_begets 82 = .ok (.ireturn, 1) := by decide +kernel
theorem dX9_draws_0 : decode cX9_draws 0 = .ok (.aload_n 0, 1) := by decide +kernel
theorem dX9_draws_1 : decode cX9_draws 1 = .ok (.getfield 107, 3) := by decide +kernel
theorem dX9_draws_4 : decode cX9_draws 4 = .ok (.iload_n 2, 1) := by decide +kernel
theorem dX9_draws_5 : decode cX9_draws 5 = .ok (.if_icmp .lt 24, 3) := by decide +kernel
theorem dX9_draws_8 : decode cX9_draws 8 = .ok (.iload_n 3, 1) := by decide +kernel
theorem dX9_draws_9 : decode cX9_draws 9 = .ok (.ifCond .eq 20, 3) := by decide +kernel
theorem dX9_draws_12 : decode cX9_draws 12 = .ok (.aload_n 0, 1) := by decide +kernel
theorem dX9_draws_13 : decode cX9_draws 13 = .ok (.bipush 75, 2) := by decide +kernel
theorem dX9_draws_15 : decode cX9_draws 15 = .ok (.aload_n 0, 1) := by decide +kernel
theorem dX9_draws_16 : decode cX9_draws 16 = .ok (.getfield 7, 3) := by decide +kernel
theorem dX9_draws_19 : decode cX9_draws 19 = .ok (.imul, 1) := by decide +kernel
theorem dX9_draws_20 : decode cX9_draws 20 = .ok (.bipush 74, 2) := by decide +kernel
theorem dX9_draws_22 : decode cX9_draws 22 = .ok (.iadd, 1) := by decide +kernel
theorem dX9_draws_23 : decode cX9_draws 23 = .ok (.ldc 215, 2) := by decide +kernel
theorem dX9_draws_25 : decode cX9_draws 25 = .ok (.irem, 1) := by decide +kernel
theorem dX9_draws_26 : decode cX9_draws 26 = .ok (.putfield 7, 3) := by decide +kernel
theorem dX9_draws_29 : decode cX9_draws 29 = .ok (.aload_n 0, 1) := by decide +kernel
theorem dX9_draws_30 : decode cX9_draws 30 = .ok (.iload_n 1, 1) := by decide +kernel
theorem dX9_draws_31 : decode cX9_draws 31 = .ok (.iload_n 2, 1) := by decide +kernel
theorem dX9_draws_32 : decode cX9_draws 32 = .ok (.iload_n 3, 1) := by decide +kernel
theorem dX9_draws_33 : decode cX9_draws 33 = .ok (.bipush 9, 2) := by decide +kernel
theorem dX9_draws_35 : decode cX9_draws 35 = .ok (.aload_n 0, 1) := by decide +kernel
theorem dX9_draws_36 : decode cX9_draws 36 = .ok (.getfield 7, 3) := by decide +kernel
theorem dX9_draws_39 : decode cX9_draws 39 = .ok (.iload 4, 2) := by decide +kernel
theorem dX9_draws_41 : decode cX9_draws 41 = .ok (.iconst 1, 1) := by decide +kernel
theorem dX9_draws_42 : decode cX9_draws 42 = .ok (.iadd, 1) := by decide +kernel
theorem dX9_draws_43 : decode cX9_draws 43 = .ok (.irem, 1) := by decide +kernel
theorem dX9_draws_44 : decode cX9_draws 44 = .ok (.i2l, 1) := by decide +kernel
theorem dX9_draws_45 : decode cX9_draws 45 = .ok (.iconst 1, 1) := by decide +kernel
theorem dX9_draws_46 : decode cX9_draws 46 = .ok (.invokevirtual 164, 3) := by decide +kernel
theorem dX9_draws_49 : decode cX9_draws 49 = .ok (.istore 5, 2) := by decide +kernel
theorem dX9_draws_51 : decode cX9_draws 51 = .ok (.aload_n 0, 1) := by decide +kernel
theorem dX9_draws_52 : decode cX9_draws 52 = .ok (.iload 5, 2) := by decide +kernel
theorem dX9_draws_54 : decode cX9_draws 54 = .ok (.ifCond .eq 12, 3) := by decide +kernel
theorem dX9_draws_57 : decode cX9_draws 57 = .ok (.aload_n 0, 1) := by decide +kernel
theorem dX9_draws_58 : decode cX9_draws 58 = .ok (.iload_n 1, 1) := by decide +kernel
theorem dX9_draws_59 : decode cX9_draws 59 = .ok (.invokevirtual 200, 3) := by decide +kernel
theorem dX9_draws_62 : decode cX9_draws 62 = .ok (.l2i, 1) := by decide +kernel
theorem dX9_draws_63 : decode cX9_draws 63 = .ok (.goto 7, 3) := by decide +kernel
theorem dX9_draws_66 : decode cX9_draws 66 = .ok (.aload_n 0, 1) := by decide +kernel
theorem dX9_draws_67 : decode cX9_draws 67 = .ok (.getfield 113, 3) := by decide +kernel
theorem dX9_draws_70 : decode cX9_draws 70 = .ok (.putfield 113, 3) := by decide +kernel
theorem dX9_draws_73 : decode cX9_draws 73 = .ok (.iload 5, 2) := by decide +kernel
theorem dX9_draws_75 : decode cX9_draws 75 = .ok (.ireturn, 1) := by decide +kernel
theorem dX9_runs_0 : decode cX9_runs 0 = .ok (.aload_n 0, 1) := by decide +kernel
theorem dX9_runs_1 : decode cX9_runs 1 = .ok (.iconst 0, 1) := by decide +kernel
theorem dX9_runs_2 : decode cX9_runs 2 = .ok (.putfield 226, 3) := by decide +kernel
theorem dX9_runs_5 : decode cX9_runs 5 = .ok (.aload_n 0, 1) := by decide +kernel
theorem dX9_runs_6 : decode cX9_runs 6 = .ok (.iconst 0, 1) := by decide +kernel
theorem dX9_runs_7 : decode cX9_runs 7 = .ok (.putfield 159, 3) := by decide +kernel
theorem dX9_runs_10 : decode cX9_runs 10 = .ok (.aload_n 0, 1) := by decide +kernel
theorem dX9_runs_11 : decode cX9_runs 11 = .ok (.iload_n 1, 1) := by decide +kernel
theorem dX9_runs_12 : decode cX9_runs 12 = .ok (.invokevirtual 229, 3) := by decide +kernel
theorem dX9_runs_15 : decode cX9_runs 15 = .ok (.iconst 0, 1) := by decide +kernel
theorem dX9_runs_16 : decode cX9_runs 16 = .ok (.istore_n 2, 1) := by decide +kernel
theorem dX9_runs_17 : decode cX9_runs 17 = .ok (.iconst 0, 1) := by decide +kernel
theorem dX9_runs_18 : decode cX9_runs 18 = .ok (.istore_n 3, 1) := by decide +kernel
theorem dX9_runs_19 : decode cX9_runs 19 = .ok (.iload_n 2, 1) := by decide +kernel
theorem dX9_runs_20 : decode cX9_runs 20 = .ok (.aload_n 0, 1) := by decide +kernel
theorem dX9_runs_21 : decode cX9_runs 21 = .ok (.getfield 226, 3) := by decide +kernel
theorem dX9_runs_24 : decode cX9_runs 24 = .ok (.if_icmp .lt 11, 3) := by decide +kernel
theorem dX9_runs_27 : decode cX9_runs 27 = .ok (.iload_n 3, 1) := by decide +kernel
theorem dX9_runs_28 : decode cX9_runs 28 = .ok (.aload_n 0, 1) := by decide +kernel
theorem dX9_runs_29 : decode cX9_runs 29 = .ok (.getfield 159, 3) := by decide +kernel
theorem dX9_runs_32 : decode cX9_runs 32 = .ok (.if_icmp .ge 58, 3) := by decide +kernel
theorem dX9_runs_35 : decode cX9_runs 35 = .ok (.iconst (-1), 1) := by decide +kernel
theorem dX9_runs_36 : decode cX9_runs 36 = .ok (.istore 4, 2) := by decide +kernel
theorem dX9_runs_38 : decode cX9_runs 38 = .ok (.iload_n 2, 1) := by decide +kernel
theorem dX9_runs_39 : decode cX9_runs 39 = .ok (.aload_n 0, 1) := by decide +kernel
theorem dX9_runs_40 : decode cX9_runs 40 = .ok (.getfield 226, 3) := by decide +kernel
theorem dX9_runs_43 : decode cX9_runs 43 = .ok (.if_icmp .ge 17, 3) := by decide +kernel
theorem dX9_runs_46 : decode cX9_runs 46 = .ok (.aload_n 0, 1) := by decide +kernel
theorem dX9_runs_47 : decode cX9_runs 47 = .ok (.getfield 84, 3) := by decide +kernel
theorem dX9_runs_50 : decode cX9_runs 50 = .ok (.iload_n 2, 1) := by decide +kernel
theorem dX9_runs_51 : decode cX9_runs 51 = .ok (.iaload, 1) := by decide +kernel
theorem dX9_runs_52 : decode cX9_runs 52 = .ok (.istore 4, 2) := by decide +kernel
theorem dX9_runs_54 : decode cX9_runs 54 = .ok (.iinc 2 1, 3) := by decide +kernel
theorem dX9_runs_57 : decode cX9_runs 57 = .ok (.goto 18, 3) := by decide +kernel
theorem dX9_runs_60 : decode cX9_runs 60 = .ok (.aload_n 0, 1) := by decide +kernel
theorem dX9_runs_61 : decode cX9_runs 61 = .ok (.aload_n 0, 1) := by decide +kernel
theorem dX9_runs_62 : decode cX9_runs 62 = .ok (.getfield 87, 3) := by decide +kernel
theorem dX9_runs_65 : decode cX9_runs 65 = .ok (.iload_n 3, 1) := by decide +kernel
theorem dX9_runs_66 : decode cX9_runs 66 = .ok (.iaload, 1) := by decide +kernel
theorem dX9_runs_67 : decode cX9_runs 67 = .ok (.invokevirtual 232, 3) := by decide +kernel
theorem dX9_runs_70 : decode cX9_runs 70 = .ok (.istore 4, 2) := by decide +kernel
theorem dX9_runs_72 : decode cX9_runs 72 = .ok (.iinc 3 1, 3) := by decide +kernel
theorem dX9_runs_75 : decode cX9_runs 75 = .ok (.iload 4, 2) := by decide +kernel
theorem dX9_runs_77 : decode cX9_runs 77 = .ok (.iconst (-1), 1) := by decide +kernel
theorem dX9_runs_78 : decode cX9_runs 78 = .ok (.if_icmp .eq 9, 3) := by decide +kernel
theorem dX9_runs_81 : decode cX9_runs 81 = .ok (.aload_n 0, 1) := by decide +kernel
theorem dX9_runs_82 : decode cX9_runs 82 = .ok (.iload 4, 2) := by decide +kernel
theorem dX9_runs_84 : decode cX9_runs 84 = .ok (.invokevirtual 229, 3) := by decide +kernel
theorem dX9_runs_87 : decode cX9_runs 87 = .ok (.goto (-68), 3) := by decide +kernel
theorem dX9_runs_90 : decode cX9_runs 90 = .ok (.return_, 1) := by decide +kernel
theorem dX9_goesOn_0 : decode cX9_goesOn 0 = .ok (.iconst 1, 1) := by decide +kernel
theorem dX9_goesOn_1 : decode cX9_goesOn 1 = .ok (.istore_n 2, 1) := by decide +kernel
theorem dX9_goesOn_2 : decode cX9_goesOn 2 = .ok (.aload_n 0, 1) := by decide +kernel
theorem dX9_goesOn_3 : decode cX9_goesOn 3 = .ok (.getfield 81, 3) := by decide +kernel
theorem dX9_goesOn_6 : decode cX9_goesOn 6 = .ok (.iconst 0, 1) := by decide +kernel
theorem dX9_goesOn_7 : decode cX9_goesOn 7 = .ok (.iload_n 1, 1) := by decide +kernel
theorem dX9_goesOn_8 : decode cX9_goesOn 8 = .ok (.iastore, 1) := by decide +kernel
theorem dX9_goesOn_9 : decode cX9_goesOn 9 = .ok (.iload_n 2, 1) := by decide +kernel
theorem dX9_goesOn_10 : decode cX9_goesOn 10 = .ok (.ifCond .le 96, 3) := by decide +kernel
theorem dX9_goesOn_13 : decode cX9_goesOn 13 = .ok (.aload_n 0, 1) := by decide +kernel
theorem dX9_goesOn_14 : decode cX9_goesOn 14 = .ok (.getfield 81, 3) := by decide +kernel
theorem dX9_goesOn_17 : decode cX9_goesOn 17 = .ok (.iload_n 2, 1) := by decide +kernel
theorem dX9_goesOn_18 : decode cX9_goesOn 18 = .ok (.iconst 1, 1) := by decide +kernel
theorem dX9_goesOn_19 : decode cX9_goesOn 19 = .ok (.isub, 1) := by decide +kernel
theorem dX9_goesOn_20 : decode cX9_goesOn 20 = .ok (.iaload, 1) := by decide +kernel
theorem dX9_goesOn_21 : decode cX9_goesOn 21 = .ok (.istore_n 3, 1) := by decide +kernel
theorem dX9_goesOn_22 : decode cX9_goesOn 22 = .ok (.aload_n 0, 1) := by decide +kernel
theorem dX9_goesOn_23 : decode cX9_goesOn 23 = .ok (.getfield 32, 3) := by decide +kernel
theorem dX9_goesOn_26 : decode cX9_goesOn 26 = .ok (.iload_n 3, 1) := by decide +kernel
theorem dX9_goesOn_27 : decode cX9_goesOn 27 = .ok (.iaload, 1) := by decide +kernel
theorem dX9_goesOn_28 : decode cX9_goesOn 28 = .ok (.ifCond .le 7, 3) := by decide +kernel
theorem dX9_goesOn_31 : decode cX9_goesOn 31 = .ok (.iconst (-1), 1) := by decide +kernel
theorem dX9_goesOn_32 : decode cX9_goesOn 32 = .ok (.goto 15, 3) := by decide +kernel
theorem dX9_goesOn_35 : decode cX9_goesOn 35 = .ok (.aload_n 0, 1) := by decide +kernel
theorem dX9_goesOn_36 : decode cX9_goesOn 36 = .ok (.iload_n 3, 1) := by decide +kernel
theorem dX9_goesOn_37 : decode cX9_goesOn 37 = .ok (.aload_n 0, 1) := by decide +kernel
theorem dX9_goesOn_38 : decode cX9_goesOn 38 = .ok (.getfield 35, 3) := by decide +kernel
theorem dX9_goesOn_41 : decode cX9_goesOn 41 = .ok (.iload_n 3, 1) := by decide +kernel
theorem dX9_goesOn_42 : decode cX9_goesOn 42 = .ok (.iaload, 1) := by decide +kernel
theorem dX9_goesOn_43 : decode cX9_goesOn 43 = .ok (.iconst 1, 1) := by decide +kernel
theorem dX9_goesOn_44 : decode cX9_goesOn 44 = .ok (.invokevirtual 216, 3) := by decide +kernel
theorem dX9_goesOn_47 : decode cX9_goesOn 47 = .ok (.istore 4, 2) := by decide +kernel
theorem dX9_goesOn_49 : decode cX9_goesOn 49 = .ok (.iload 4, 2) := by decide +kernel
theorem dX9_goesOn_51 : decode cX9_goesOn 51 = .ok (.iconst (-1), 1) := by decide +kernel
theorem dX9_goesOn_52 : decode cX9_goesOn 52 = .ok (.if_icmp .eq 17, 3) := by decide +kernel
theorem dX9_goesOn_55 : decode cX9_goesOn 55 = .ok (.aload_n 0, 1) := by decide +kernel
theorem dX9_goesOn_56 : decode cX9_goesOn 56 = .ok (.getfield 81, 3) := by decide +kernel
theorem dX9_goesOn_59 : decode cX9_goesOn 59 = .ok (.iload_n 2, 1) := by decide +kernel
theorem dX9_goesOn_60 : decode cX9_goesOn 60 = .ok (.iload 4, 2) := by decide +kernel
theorem dX9_goesOn_62 : decode cX9_goesOn 62 = .ok (.iastore, 1) := by decide +kernel
theorem dX9_goesOn_63 : decode cX9_goesOn 63 = .ok (.iinc 2 1, 3) := by decide +kernel
theorem dX9_goesOn_66 : decode cX9_goesOn 66 = .ok (.goto 37, 3) := by decide +kernel
theorem dX9_goesOn_69 : decode cX9_goesOn 69 = .ok (.iinc 2 (-1), 3) := by decide +kernel
theorem dX9_goesOn_72 : decode cX9_goesOn 72 = .ok (.aload_n 0, 1) := by decide +kernel
theorem dX9_goesOn_73 : decode cX9_goesOn 73 = .ok (.getfield 32, 3) := by decide +kernel
theorem dX9_goesOn_76 : decode cX9_goesOn 76 = .ok (.iload_n 3, 1) := by decide +kernel
theorem dX9_goesOn_77 : decode cX9_goesOn 77 = .ok (.iaload, 1) := by decide +kernel
theorem dX9_goesOn_78 : decode cX9_goesOn 78 = .ok (.ifCond .ne 25, 3) := by decide +kernel
theorem dX9_goesOn_81 : decode cX9_goesOn 81 = .ok (.aload_n 0, 1) := by decide +kernel
theorem dX9_goesOn_82 : decode cX9_goesOn 82 = .ok (.getfield 103, 3) := by decide +kernel
theorem dX9_goesOn_85 : decode cX9_goesOn 85 = .ok (.ifCond .eq 18, 3) := by decide +kernel
theorem dX9_goesOn_88 : decode cX9_goesOn 88 = .ok (.aload_n 0, 1) := by decide +kernel
theorem dX9_goesOn_89 : decode cX9_goesOn 89 = .ok (.getfield 38, 3) := by decide +kernel
theorem dX9_goesOn_92 : decode cX9_goesOn 92 = .ok (.iload_n 3, 1) := by decide +kernel
theorem dX9_goesOn_93 : decode cX9_goesOn 93 = .ok (.aload_n 0, 1) := by decide +kernel
theorem dX9_goesOn_94 : decode cX9_goesOn 94 = .ok (.getfield 107, 3) := by decide +kernel
theorem dX9_goesOn_97 : decode cX9_goesOn 97 = .ok (.iastore, 1) := by decide +kernel
theorem dX9_goesOn_98 : decode cX9_goesOn 98 = .ok (.aload_n 0, 1) := by decide +kernel
theorem dX9_goesOn_99 : decode cX9_goesOn 99 = .ok (.iload_n 3, 1) := by decide +kernel
theorem dX9_goesOn_100 : decode cX9_goesOn 100 = .ok (.invokevirtual 220, 3) := by decide +kernel
theorem dX9_goesOn_103 : decode cX9_goesOn 103 = .ok (.goto (-94), 3) := by decide +kernel
theorem dX9_goesOn_106 : decode cX9_goesOn 106 = .ok (.return_, 1) := by decide +kernel
theorem dX9_rests_0 : decode cX9_rests 0 = .ok (.aload_n 0, 1) := by decide +kernel
theorem dX9_rests_1 : decode cX9_rests 1 = .ok (.getfield 116, 3) := by decide +kernel
theorem dX9_rests_4 : decode cX9_rests 4 = .ok (.iconst 1, 1) := by decide +kernel
theorem dX9_rests_5 : decode cX9_rests 5 = .ok (.if_icmp .eq 12, 3) := by decide +kernel
theorem dX9_rests_8 : decode cX9_rests 8 = .ok (.aload_n 0, 1) := by decide +kernel
theorem dX9_rests_9 : decode cX9_rests 9 = .ok (.getfield 116, 3) := by decide +kernel
theorem dX9_rests_12 : decode cX9_rests 12 = .ok (.bipush 6, 2) := by decide +kernel
theorem dX9_rests_14 : decode cX9_rests 14 = .ok (.if_icmp .ne 7, 3) := by decide +kernel
theorem dX9_rests_17 : decode cX9_rests 17 = .ok (.iconst 1, 1) := by decide +kernel
theorem dX9_rests_18 : decode cX9_rests 18 = .ok (.goto 4, 3) := by decide +kernel
theorem dX9_rests_21 : decode cX9_rests 21 = .ok (.iconst 0, 1) := by decide +kernel
theorem dX9_rests_22 : decode cX9_rests 22 = .ok (.istore_n 2, 1) := by decide +kernel
theorem dX9_rests_23 : decode cX9_rests 23 = .ok (.iconst 0, 1) := by decide +kernel
theorem dX9_rests_24 : decode cX9_rests 24 = .ok (.istore_n 3, 1) := by decide +kernel
theorem dX9_rests_25 : decode cX9_rests 25 = .ok (.iload_n 3, 1) := by decide +kernel
theorem dX9_rests_26 : decode cX9_rests 26 = .ok (.aload_n 0, 1) := by decide +kernel
theorem dX9_rests_27 : decode cX9_rests 27 = .ok (.getfield 100, 3) := by decide +kernel
theorem dX9_rests_30 : decode cX9_rests 30 = .ok (.if_icmp .ge 48, 3) := by decide +kernel
theorem dX9_rests_33 : decode cX9_rests 33 = .ok (.aload_n 0, 1) := by decide +kernel
theorem dX9_rests_34 : decode cX9_rests 34 = .ok (.getfield 51, 3) := by decide +kernel
theorem dX9_rests_37 : decode cX9_rests 37 = .ok (.iload_n 3, 1) := by decide +kernel
theorem dX9_rests_38 : decode cX9_rests 38 = .ok (.iaload, 1) := by decide +kernel
theorem dX9_rests_39 : decode cX9_rests 39 = .ok (.iload_n 1, 1) := by decide +kernel
theorem dX9_rests_40 : decode cX9_rests 40 = .ok (.if_icmp .ne 32, 3) := by decide +kernel
theorem dX9_rests_43 : decode cX9_rests 43 = .ok (.aload_n 0, 1) := by decide +kernel
theorem dX9_rests_44 : decode cX9_rests 44 = .ok (.getfield 57, 3) := by decide +kernel
theorem dX9_rests_47 : decode cX9_rests 47 = .ok (.iload_n 3, 1) := by decide +kernel
theorem dX9_rests_48 : decode cX9_rests 48 = .ok (.iaload, 1) := by decide +kernel
theorem dX9_rests_49 : decode cX9_rests 49 = .ok (.iconst 3, 1) := by decide +kernel
theorem dX9_rests_50 : decode cX9_rests 50 = .ok (.if_icmp .eq 22, 3) := by decide +kernel
theorem dX9_rests_53 : decode cX9_rests 53 = .ok (.iload_n 2, 1) := by decide +kernel
theorem dX9_rests_54 : decode cX9_rests 54 = .ok (.ifCond .eq 13, 3) := by decide +kernel
theorem dX9_rests_57 : decode cX9_rests 57 = .ok (.iload_n 3, 1) := by decide +kernel
theorem dX9_rests_58 : decode cX9_rests 58 = .ok (.aload_n 0, 1) := by decide +kernel
theorem dX9_rests_59 : decode cX9_rests 59 = .ok (.getfield 41, 3) := by decide +kernel
theorem dX9_rests_62 : decode cX9_rests 62 = .ok (.iload_n 1, 1) := by decide +kernel
theorem dX9_rests_63 : decode cX9_rests 63 = .ok (.iaload, 1) := by decide +kernel
theorem dX9_rests_64 : decode cX9_rests 64 = .ok (.if_icmp .eq 8, 3) := by decide +kernel
theorem dX9_rests_67 : decode cX9_rests 67 = .ok (.aload_n 0, 1) := by decide +kernel
theorem dX9_rests_68 : decode cX9_rests 68 = .ok (.iload_n 3, 1) := by decide +kernel
theorem dX9_rests_69 : decode cX9_rests 69 = .ok (.invokevirtual 223, 3) := by decide +kernel
theorem dX9_rests_72 : decode cX9_rests 72 = .ok (.iinc 3 1, 3) := by decide +kernel
theorem dX9_rests_75 : decode cX9_rests 75 = .ok (.goto (-50), 3) := by decide +kernel
theorem dX9_rests_78 : decode cX9_rests 78 = .ok (.iload_n 2, 1) := by decide +kernel
theorem dX9_rests_79 : decode cX9_rests 79 = .ok (.ifCond .eq 23, 3) := by decide +kernel
theorem dX9_rests_82 : decode cX9_rests 82 = .ok (.aload_n 0, 1) := by decide +kernel
theorem dX9_rests_83 : decode cX9_rests 83 = .ok (.getfield 41, 3) := by decide +kernel
theorem dX9_rests_86 : decode cX9_rests 86 = .ok (.iload_n 1, 1) := by decide +kernel
theorem dX9_rests_87 : decode cX9_rests 87 = .ok (.iaload, 1) := by decide +kernel
theorem dX9_rests_88 : decode cX9_rests 88 = .ok (.iconst (-1), 1) := by decide +kernel
theorem dX9_rests_89 : decode cX9_rests 89 = .ok (.if_icmp .ne 13, 3) := by decide +kernel
theorem dX9_rests_92 : decode cX9_rests 92 = .ok (.aload_n 0, 1) := by decide +kernel
theorem dX9_rests_93 : decode cX9_rests 93 = .ok (.iload_n 1, 1) := by decide +kernel
theorem dX9_rests_94 : decode cX9_rests 94 = .ok (.aload_n 0, 1) := by decide +kernel
theorem dX9_rests_95 : decode cX9_rests 95 = .ok (.getfield 119, 3) := by decide +kernel
theorem dX9_rests_98 : decode cX9_rests 98 = .ok (.invokevirtual 189, 3) := by decide +kernel
theorem dX9_rests_101 : decode cX9_rests 101 = .ok (.pop, 1) := by decide +kernel
theorem dX9_rests_102 : decode cX9_rests 102 = .ok (.aload_n 0, 1) := by decide +kernel
theorem dX9_rests_103 : decode cX9_rests 103 = .ok (.getfield 134, 3) := by decide +kernel
theorem dX9_rests_106 : decode cX9_rests 106 = .ok (.ifCond .le 134, 3) := by decide +kernel
theorem dX9_rests_109 : decode cX9_rests 109 = .ok (.aload_n 0, 1) := by decide +kernel
theorem dX9_rests_110 : decode cX9_rests 110 = .ok (.getfield 32, 3) := by decide +kernel
theorem dX9_rests_113 : decode cX9_rests 113 = .ok (.iload_n 1, 1) := by decide +kernel
theorem dX9_rests_114 : decode cX9_rests 114 = .ok (.aload_n 0, 1) := by decide +kernel
theorem dX9_rests_115 : decode cX9_rests 115 = .ok (.getfield 134, 3) := by decide +kernel
theorem dX9_rests_118 : decode cX9_rests 118 = .ok (.iastore, 1) := by decide +kernel
theorem dX9_rests_119 : decode cX9_rests 119 = .ok (.ldc2_w 162, 3) := by decide +kernel
theorem dX9_rests_122 : decode cX9_rests 122 = .ok (.aload_n 0, 1) := by decide +kernel
theorem dX9_rests_123 : decode cX9_rests 123 = .ok (.getfield 113, 3) := by decide +kernel
theorem dX9_rests_126 : decode cX9_rests 126 = .ok (.i2l, 1) := by decide +kernel
theorem dX9_rests_127 : decode cX9_rests 127 = .ok (.lmul, 1) := by decide +kernel
theorem dX9_rests_128 : decode cX9_rests 128 = .ok (.aload_n 0, 1) := by decide +kernel
theorem dX9_rests_129 : decode cX9_rests 129 = .ok (.getfield 134, 3) := by decide +kernel
theorem dX9_rests_132 : decode cX9_rests 132 = .ok (.i2l, 1) := by decide +kernel
theorem dX9_rests_133 : decode cX9_rests 133 = .ok (.ladd, 1) := by decide +kernel
theorem dX9_rests_134 : decode cX9_rests 134 = .ok (.lstore_n 3, 1) := by decide +kernel
theorem dX9_rests_135 : decode cX9_rests 135 = .ok (.aload_n 0, 1) := by decide +kernel
theorem dX9_rests_136 : decode cX9_rests 136 = .ok (.getfield 26, 3) := by decide +kernel
theorem dX9_rests_139 : decode cX9_rests 139 = .ok (.iload_n 1, 1) := by decide +kernel
theorem dX9_rests_140 : decode cX9_rests 140 = .ok (.iaload, 1) := by decide +kernel
theorem dX9_rests_141 : decode cX9_rests 141 = .ok (.istore 5, 2) := by decide +kernel
theorem dX9_rests_143 : decode cX9_rests 143 = .ok (.aload_n 0, 1) := by decide +kernel
theorem dX9_rests_144 : decode cX9_rests 144 = .ok (.getfield 134, 3) := by decide +kernel
theorem dX9_rests_147 : decode cX9_rests 147 = .ok (.iconst 4, 1) := by decide +kernel
theorem dX9_rests_148 : decode cX9_rests 148 = .ok (.if_icmp .eq 92, 3) := by decide +kernel
theorem dX9_rests_151 : decode cX9_rests 151 = .ok (.iload 5, 2) := by decide +kernel
theorem dX9_rests_153 : decode cX9_rests 153 = .ok (.iconst (-1), 1) := by decide +kernel
theorem dX9_rests_154 : decode cX9_rests 154 = .ok (.if_icmp .eq 86, 3) := by decide +kernel
theorem dX9_rests_157 : decode cX9_rests 157 = .ok (.aload_n 0, 1) := by decide +kernel
theorem dX9_rests_158 : decode cX9_rests 158 = .ok (.getfield 32, 3) := by decide +kernel
theorem dX9_rests_161 : decode cX9_rests 161 = .ok (.iload 5, 2) := by decide +kernel
theorem dX9_rests_163 : decode cX9_rests 163 = .ok (.iaload, 1) := by decide +kernel
theorem dX9_rests_164 : decode cX9_rests 164 = .ok (.ifCond .ne 76, 3) := by decide +kernel
theorem dX9_rests_167 : decode cX9_rests 167 = .ok (.aload_n 0, 1) := by decide +kernel
theorem dX9_rests_168 : decode cX9_rests 168 = .ok (.iload 5, 2) := by decide +kernel
theorem dX9_rests_170 : decode cX9_rests 170 = .ok (.aload_n 0, 1) := by decide +kernel
theorem dX9_rests_171 : decode cX9_rests 171 = .ok (.getfield 35, 3) := by decide +kernel
theorem dX9_rests_174 : decode cX9_rests 174 = .ok (.iload 5, 2) := by decide +kernel
theorem dX9_rests_176 : decode cX9_rests 176 = .ok (.iaload, 1) := by decide +kernel
theorem dX9_rests_177 : decode cX9_rests 177 = .ok (.iconst 0, 1) := by decide +kernel
theorem dX9_rests_178 : decode cX9_rests 178 = .ok (.invokevirtual 216, 3) := by decide +kernel
theorem dX9_rests_181 : decode cX9_rests 181 = .ok (.pop, 1) := by decide +kernel
theorem dX9_rests_182 : decode cX9_rests 182 = .ok (.aload_n 0, 1) := by decide +kernel
theorem dX9_rests_183 : decode cX9_rests 183 = .ok (.getfield 103, 3) := by decide +kernel
theorem dX9_rests_186 : decode cX9_rests 186 = .ok (.ifCond .eq 54, 3) := by decide +kernel
theorem dX9_rests_189 : decode cX9_rests 189 = .ok (.aload_n 0, 1) := by decide +kernel
theorem dX9_rests_190 : decode cX9_rests 190 = .ok (.getfield 116, 3) := by decide +kernel
theorem dX9_rests_193 : decode cX9_rests 193 = .ok (.iconst 5, 1) := by decide +kernel
theorem dX9_rests_194 : decode cX9_rests 194 = .ok (.if_icmp .ne 46, 3) := by decide +kernel
theorem dX9_rests_197 : decode cX9_rests 197 = .ok (.aload_n 0, 1) := by decide +kernel
theorem dX9_rests_198 : decode cX9_rests 198 = .ok (.getfield 119, 3) := by decide +kernel
theorem dX9_rests_201 : decode cX9_rests 201 = .ok (.aload_n 0, 1) := by decide +kernel
theorem dX9_rests_202 : decode cX9_rests 202 = .ok (.getfield 29, 3) := by decide +kernel
theorem dX9_rests_205 : decode cX9_rests 205 = .ok (.iload_n 1, 1) := by decide +kernel
theorem dX9_rests_206 : decode cX9_rests 206 = .ok (.iaload, 1) := by decide +kernel
theorem dX9_rests_207 : decode cX9_rests 207 = .ok (.if_icmp .ne 33, 3) := by decide +kernel
theorem dX9_rests_210 : decode cX9_rests 210 = .ok (.aload_n 0, 1) := by decide +kernel
theorem dX9_rests_211 : decode cX9_rests 211 = .ok (.iload 5, 2) := by decide +kernel
theorem dX9_rests_213 : decode cX9_rests 213 = .ok (.bipush 8, 2) := by decide +kernel
theorem dX9_rests_215 : decode cX9_rests 215 = .ok (.lload_n 3, 1) := by decide +kernel
theorem dX9_rests_216 : decode cX9_rests 216 = .ok (.invokevirtual 143, 3) := by decide +kernel
theorem dX9_rests_219 : decode cX9_rests 219 = .ok (.aload_n 0, 1) := by decide +kernel
theorem dX9_rests_220 : decode cX9_rests 220 = .ok (.getfield 84, 3) := by decide +kernel
theorem dX9_rests_223 : decode cX9_rests 223 = .ok (.aload_n 0, 1) := by decide +kernel
theorem dX9_rests_224 : decode cX9_rests 224 = .ok (.getfield 226, 3) := by decide +kernel
theorem dX9_rests_227 : decode cX9_rests 227 = .ok (.iload 5, 2) := by decide +kernel
theorem dX9_rests_229 : decode cX9_rests 229 = .ok (.iastore, 1) := by decide +kernel
theorem dX9_rests_230 : decode cX9_rests 230 = .ok (.aload_n 0, 1) := by decide +kernel
theorem dX9_rests_231 : decode cX9_rests 231 = .ok (.dup, 1) := by decide +kernel
theorem dX9_rests_232 : decode cX9_rests 232 = .ok (.getfield 226, 3) := by decide +kernel
theorem dX9_rests_235 : decode cX9_rests 235 = .ok (.iconst 1, 1) := by decide +kernel
theorem dX9_rests_236 : decode cX9_rests 236 = .ok (.iadd, 1) := by decide +kernel
theorem dX9_rests_237 : decode cX9_rests 237 = .ok (.putfield 226, 3) := by decide +kernel
theorem dX9_rests_240 : decode cX9_rests 240 = .ok (.return_, 1) := by decide +kernel
theorem dX9_closes_0 : decode cX9_closes 0 = .ok (.aload_n 0, 1) := by decide +kernel
theorem dX9_closes_1 : decode cX9_closes 1 = .ok (.getfield 57, 3) := by decide +kernel
theorem dX9_closes_4 : decode cX9_closes 4 = .ok (.iload_n 1, 1) := by decide +kernel
theorem dX9_closes_5 : decode cX9_closes 5 = .ok (.iconst 3, 1) := by decide +kernel
theorem dX9_closes_6 : decode cX9_closes 6 = .ok (.iastore, 1) := by decide +kernel
theorem dX9_closes_7 : decode cX9_closes 7 = .ok (.aload_n 0, 1) := by decide +kernel
theorem dX9_closes_8 : decode cX9_closes 8 = .ok (.getfield 66, 3) := by decide +kernel
theorem dX9_closes_11 : decode cX9_closes 11 = .ok (.iload_n 1, 1) := by decide +kernel
theorem dX9_closes_12 : decode cX9_closes 12 = .ok (.iconst 0, 1) := by decide +kernel
theorem dX9_closes_13 : decode cX9_closes 13 = .ok (.iastore, 1) := by decide +kernel
theorem dX9_closes_14 : decode cX9_closes 14 = .ok (.return_, 1) := by decide +kernel
theorem dX9_asks_0 : decode cX9_asks 0 = .ok (.iconst 0, 1) := by decide +kernel
theorem dX9_asks_1 : decode cX9_asks 1 = .ok (.istore_n 2, 1) := by decide +kernel
theorem dX9_asks_2 : decode cX9_asks 2 = .ok (.iload_n 2, 1) := by decide +kernel
theorem dX9_asks_3 : decode cX9_asks 3 = .ok (.aload_n 0, 1) := by decide +kernel
theorem dX9_asks_4 : decode cX9_asks 4 = .ok (.getfield 93, 3) := by decide +kernel
theorem dX9_asks_7 : decode cX9_asks 7 = .ok (.if_icmp .ge 49, 3) := by decide +kernel
theorem dX9_asks_10 : decode cX9_asks 10 = .ok (.aload_n 0, 1) := by decide +kernel
theorem dX9_asks_11 : decode cX9_asks 11 = .ok (.getfield 29, 3) := by decide +kernel
theorem dX9_asks_14 : decode cX9_asks 14 = .ok (.iload_n 2, 1) := by decide +kernel
theorem dX9_asks_15 : decode cX9_asks 15 = .ok (.iaload, 1) := by decide +kernel
theorem dX9_asks_16 : decode cX9_asks 16 = .ok (.iload_n 1, 1) := by decide +kernel
theorem dX9_asks_17 : decode cX9_asks 17 = .ok (.if_icmp .ne 33, 3) := by decide +kernel
theorem dX9_asks_20 : decode cX9_asks 20 = .ok (.aload_n 0, 1) := by decide +kernel
theorem dX9_asks_21 : decode cX9_asks 21 = .ok (.getfield 32, 3) := by decide +kernel
theorem dX9_asks_24 : decode cX9_asks 24 = .ok (.iload_n 2, 1) := by decide +kernel
theorem dX9_asks_25 : decode cX9_asks 25 = .ok (.iaload, 1) := by decide +kernel
theorem dX9_asks_26 : decode cX9_asks 26 = .ok (.ifCond .ne 24, 3) := by decide +kernel
theorem dX9_asks_29 : decode cX9_asks 29 = .ok (.aload_n 0, 1) := by decide +kernel
theorem dX9_asks_30 : decode cX9_asks 30 = .ok (.getfield 35, 3) := by decide +kernel
theorem dX9_asks_33 : decode cX9_asks 33 = .ok (.iload_n 2, 1) := by decide +kernel
theorem dX9_asks_34 : decode cX9_asks 34 = .ok (.iaload, 1) := by decide +kernel
theorem dX9_asks_35 : decode cX9_asks 35 = .ok (.bipush 90, 2) := by decide +kernel
theorem dX9_asks_37 : decode cX9_asks 37 = .ok (.if_icmp .ge 13, 3) := by decide +kernel
theorem dX9_asks_40 : decode cX9_asks 40 = .ok (.aload_n 0, 1) := by decide +kernel
theorem dX9_asks_41 : decode cX9_asks 41 = .ok (.iload_n 2, 1) := by decide +kernel
theorem dX9_asks_42 : decode cX9_asks 42 = .ok (.bipush 12, 2) := by decide +kernel
theorem dX9_asks_44 : decode cX9_asks 44 = .ok (.lconst 0, 1) := by decide +kernel
theorem dX9_asks_45 : decode cX9_asks 45 = .ok (.invokevirtual 143, 3) := by decide +kernel
theorem dX9_asks_48 : decode cX9_asks 48 = .ok (.iload_n 2, 1) := by decide +kernel
theorem dX9_asks_49 : decode cX9_asks 49 = .ok (.ireturn, 1) := by decide +kernel
theorem dX9_asks_50 : decode cX9_asks 50 = .ok (.iinc 2 1, 3) := by decide +kernel
theorem dX9_asks_53 : decode cX9_asks 53 = .ok (.goto (-51), 3) := by decide +kernel
theorem dX9_asks_56 : decode cX9_asks 56 = .ok (.iconst (-1), 1) := by decide +kernel
theorem dX9_asks_57 : decode cX9_asks 57 = .ok (.ireturn, 1) := by decide +kernel
theorem dX9_unfit_0 : decode cX9_unfit 0 = .ok (.iconst 0, 1) := by decide +kernel
theorem dX9_unfit_1 : decode cX9_unfit 1 = .ok (.istore_n 2, 1) := by decide +kernel
theorem dX9_unfit_2 : decode cX9_unfit 2 = .ok (.iconst 0, 1) := by decide +kernel
theorem dX9_unfit_3 : decode cX9_unfit 3 = .ok (.istore_n 3, 1) := by decide +kernel
theorem dX9_unfit_4 : decode cX9_unfit 4 = .ok (.iload_n 3, 1) := by decide +kernel
theorem dX9_unfit_5 : decode cX9_unfit 5 = .ok (.aload_n 0, 1) := by decide +kernel
theorem dX9_unfit_6 : decode cX9_unfit 6 = .ok (.getfield 93, 3) := by decide +kernel
theorem dX9_unfit_9 : decode cX9_unfit 9 = .ok (.if_icmp .ge 44, 3) := by decide +kernel
theorem dX9_unfit_12 : decode cX9_unfit 12 = .ok (.iload_n 2, 1) := by decide +kernel
theorem dX9_unfit_13 : decode cX9_unfit 13 = .ok (.aload_n 0, 1) := by decide +kernel
theorem dX9_unfit_14 : decode cX9_unfit 14 = .ok (.getfield 23, 3) := by decide +kernel
theorem dX9_unfit_17 : decode cX9_unfit 17 = .ok (.iload_n 3, 1) := by decide +kernel
theorem dX9_unfit_18 : decode cX9_unfit 18 = .ok (.iaload, 1) := by decide +kernel
theorem dX9_unfit_19 : decode cX9_unfit 19 = .ok (.iload_n 1, 1) := by decide +kernel
theorem dX9_unfit_20 : decode cX9_unfit 20 = .ok (.if_icmp .ne 24, 3) := by decide +kernel
theorem dX9_unfit_23 : decode cX9_unfit 23 = .ok (.aload_n 0, 1) := by decide +kernel
theorem dX9_unfit_24 : decode cX9_unfit 24 = .ok (.getfield 32, 3) := by decide +kernel
theorem dX9_unfit_27 : decode cX9_unfit 27 = .ok (.iload_n 3, 1) := by decide +kernel
theorem dX9_unfit_28 : decode cX9_unfit 28 = .ok (.iaload, 1) := by decide +kernel
theorem dX9_unfit_29 : decode cX9_unfit 29 = .ok (.ifCond .ne 15, 3) := by decide +kernel
theorem dX9_unfit_32 : decode cX9_unfit 32 = .ok (.aload_n 0, 1) := by decide +kernel
theorem dX9_unfit_33 : decode cX9_unfit 33 = .ok (.iload_n 3, 1) := by decide +kernel
theorem dX9_unfit_34 : decode cX9_unfit 34 = .ok (.invokevirtual 235, 3) := by decide +kernel
theorem dX9_unfit_37 : decode cX9_unfit 37 = .ok (.ifCond .ne 7, 3) := by decide +kernel
theorem dX9_unfit_40 : decode cX9_unfit 40 = .ok (.iconst 1, 1) := by decide +kernel
theorem dX9_unfit_41 : decode cX9_unfit 41 = .ok (.goto 4, 3) := by decide +kernel
theorem dX9_unfit_44 : decode cX9_unfit 44 = .ok (.iconst 0, 1) := by decide +kernel
theorem dX9_unfit_45 : decode cX9_unfit 45 = .ok (.iadd, 1) := by decide +kernel
theorem dX9_unfit_46 : decode cX9_unfit 46 = .ok (.istore_n 2, 1) := by decide +kernel
theorem dX9_unfit_47 : decode cX9_unfit 47 = .ok (.iinc 3 1, 3) := by decide +kernel
theorem dX9_unfit_50 : decode cX9_unfit 50 = .ok (.goto (-46), 3) := by decide +kernel
theorem dX9_unfit_53 : decode cX9_unfit 53 = .ok (.iload_n 2, 1) := by decide +kernel
theorem dX9_unfit_54 : decode cX9_unfit 54 = .ok (.ireturn, 1) := by decide +kernel
theorem dX9_check_0 : decode cX9_check 0 = .ok (.aload_n 0, 1) := by decide +kernel
theorem dX9_check_1 : decode cX9_check 1 = .ok (.iload_n 1, 1) := by decide +kernel
theorem dX9_check_2 : decode cX9_check 2 = .ok (.iload_n 2, 1) := by decide +kernel
theorem dX9_check_3 : decode cX9_check 3 = .ok (.invokestatic 238, 3) := by decide +kernel
theorem dX9_check_6 : decode cX9_check 6 = .ok (.iload_n 3, 1) := by decide +kernel
theorem dX9_check_7 : decode cX9_check 7 = .ok (.iload 4, 2) := by decide +kernel
theorem dX9_check_9 : decode cX9_check 9 = .ok (.iload 5, 2) := by decide +kernel
theorem dX9_check_11 : decode cX9_check 11 = .ok (.invokestatic 242, 3) := by decide +kernel
theorem dX9_check_14 : decode cX9_check 14 = .ok (.invokevirtual 245, 3) := by decide +kernel
theorem dX9_check_17 : decode cX9_check 17 = .ok (.ifCond .ne 5, 3) := by decide +kernel
theorem dX9_check_20 : decode cX9_check 20 = .ok (.iconst 0, 1) := by decide +kernel
theorem dX9_check_21 : decode cX9_check 21 = .ok (.ireturn, 1) := by decide +kernel
theorem dX9_check_22 : decode cX9_check 22 = .ok (.bipush 20, 2) := by decide +kernel
theorem dX9_check_24 : decode cX9_check 24 = .ok (.iload_n 1, 1) := by decide +kernel
theorem dX9_check_25 : decode cX9_check 25 = .ok (.imul, 1) := by decide +kernel
theorem dX9_check_26 : decode cX9_check 26 = .ok (.iload_n 2, 1) := by decide +kernel
theorem dX9_check_27 : decode cX9_check 27 = .ok (.iadd, 1) := by decide +kernel
theorem dX9_check_28 : decode cX9_check 28 = .ok (.istore 6, 2) := by decide +kernel
theorem dX9_check_30 : decode cX9_check 30 = .ok (.aload_n 0, 1) := by decide +kernel
theorem dX9_check_31 : decode cX9_check 31 = .ok (.getfield 13, 3) := by decide +kernel
theorem dX9_check_34 : decode cX9_check 34 = .ok (.iload 6, 2) := by decide +kernel
theorem dX9_check_36 : decode cX9_check 36 = .ok (.iaload, 1) := by decide +kernel
theorem dX9_check_37 : decode cX9_check 37 = .ok (.istore 7, 2) := by decide +kernel
theorem dX9_check_39 : decode cX9_check 39 = .ok (.aload_n 0, 1) := by decide +kernel
theorem dX9_check_40 : decode cX9_check 40 = .ok (.getfield 17, 3) := by decide +kernel
theorem dX9_check_43 : decode cX9_check 43 = .ok (.iload 6, 2) := by decide +kernel
theorem dX9_check_45 : decode cX9_check 45 = .ok (.iaload, 1) := by decide +kernel
theorem dX9_check_46 : decode cX9_check 46 = .ok (.istore 8, 2) := by decide +kernel
theorem dX9_check_48 : decode cX9_check 48 = .ok (.aload_n 0, 1) := by decide +kernel
theorem dX9_check_49 : decode cX9_check 49 = .ok (.getfield 20, 3) := by decide +kernel
theorem dX9_check_52 : decode cX9_check 52 = .ok (.iload 6, 2) := by decide +kernel
theorem dX9_check_54 : decode cX9_check 54 = .ok (.iaload, 1) := by decide +kernel
theorem dX9_check_55 : decode cX9_check 55 = .ok (.istore 9, 2) := by decide +kernel
theorem dX9_check_57 : decode cX9_check 57 = .ok (.aload_n 0, 1) := by decide +kernel
theorem dX9_check_58 : decode cX9_check 58 = .ok (.iload_n 1, 1) := by decide +kernel
theorem dX9_check_59 : decode cX9_check 59 = .ok (.iload_n 2, 1) := by decide +kernel
theorem dX9_check_60 : decode cX9_check 60 = .ok (.iload_n 3, 1) := by decide +kernel
theorem dX9_check_61 : decode cX9_check 61 = .ok (.iload 4, 2) := by decide +kernel
theorem dX9_check_63 : decode cX9_check 63 = .ok (.iload 5, 2) := by decide +kernel
theorem dX9_check_65 : decode cX9_check 65 = .ok (.invokevirtual 249, 3) := by decide +kernel
theorem dX9_check_68 : decode cX9_check 68 = .ok (.aload_n 0, 1) := by decide +kernel
theorem dX9_check_69 : decode cX9_check 69 = .ok (.iload_n 1, 1) := by decide +kernel
theorem dX9_check_70 : decode cX9_check 70 = .ok (.invokevirtual 256, 3) := by decide +kernel
theorem dX9_check_73 : decode cX9_check 73 = .ok (.istore 10, 2) := by decide +kernel
theorem dX9_check_75 : decode cX9_check 75 = .ok (.aload_n 0, 1) := by decide +kernel
theorem dX9_check_76 : decode cX9_check 76 = .ok (.iload_n 1, 1) := by decide +kernel
theorem dX9_check_77 : decode cX9_check 77 = .ok (.iload_n 2, 1) := by decide +kernel
theorem dX9_check_78 : decode cX9_check 78 = .ok (.iload 7, 2) := by decide +kernel
theorem dX9_check_80 : decode cX9_check 80 = .ok (.iload 8, 2) := by decide +kernel
theorem dX9_check_82 : decode cX9_check 82 = .ok (.iload 9, 2) := by decide +kernel
theorem dX9_check_84 : decode cX9_check 84 = .ok (.invokevirtual 249, 3) := by decide +kernel
theorem dX9_check_87 : decode cX9_check 87 = .ok (.iload 10, 2) := by decide +kernel
theorem dX9_check_89 : decode cX9_check 89 = .ok (.ireturn, 1) := by decide +kernel
theorem dX9_start_0 : decode cX9_start 0 = .ok (.aload_n 0, 1) := by decide +kernel
theorem dX9_start_1 : decode cX9_start 1 = .ok (.iload_n 1, 1) := by decide +kernel
theorem dX9_start_2 : decode cX9_start 2 = .ok (.iconst 0, 1) := by decide +kernel
theorem dX9_start_3 : decode cX9_start 3 = .ok (.iconst 5, 1) := by decide +kernel
theorem dX9_start_4 : decode cX9_start 4 = .ok (.invokestatic 96, 3) := by decide +kernel
theorem dX9_start_7 : decode cX9_start 7 = .ok (.iload_n 2, 1) := by decide +kernel
theorem dX9_start_8 : decode cX9_start 8 = .ok (.sipush (-999), 3) := by decide +kernel
theorem dX9_start_11 : decode cX9_start 11 = .ok (.sipush 999, 3) := by decide +kernel
theorem dX9_start_14 : decode cX9_start 14 = .ok (.invokestatic 96, 3) := by decide +kernel
theorem dX9_start_17 : decode cX9_start 17 = .ok (.aload_n 0, 1) := by decide +kernel
theorem dX9_start_18 : decode cX9_start 18 = .ok (.getfield 93, 3) := by decide +kernel
theorem dX9_start_21 : decode cX9_start 21 = .ok (.bipush 40, 2) := by decide +kernel
theorem dX9_start_23 : decode cX9_start 23 = .ok (.if_icmp .ge 7, 3) := by decide +kernel
theorem dX9_start_26 : decode cX9_start 26 = .ok (.iconst 1, 1) := by decide +kernel
theorem dX9_start_27 : decode cX9_start 27 = .ok (.goto 4, 3) := by decide +kernel
theorem dX9_start_30 : decode cX9_start 30 = .ok (.iconst 0, 1) := by decide +kernel
theorem dX9_start_31 : decode cX9_start 31 = .ok (.invokevirtual 259, 3) := by decide +kernel
theorem dX9_start_34 : decode cX9_start 34 = .ok (.ifCond .ne 5, 3) := by decide +kernel
theorem dX9_start_37 : decode cX9_start 37 = .ok (.iconst 0, 1) := by decide +kernel
theorem dX9_start_38 : decode cX9_start 38 = .ok (.ireturn, 1) := by decide +kernel
theorem dX9_start_39 : decode cX9_start 39 = .ok (.aload_n 0, 1) := by decide +kernel
theorem dX9_start_40 : decode cX9_start 40 = .ok (.iload_n 1, 1) := by decide +kernel
theorem dX9_start_41 : decode cX9_start 41 = .ok (.iload_n 2, 1) := by decide +kernel
theorem dX9_start_42 : decode cX9_start 42 = .ok (.iconst (-1), 1) := by decide +kernel
theorem dX9_start_43 : decode cX9_start 43 = .ok (.iconst (-1), 1) := by decide +kernel
theorem dX9_start_44 : decode cX9_start 44 = .ok (.invokevirtual 168, 3) := by decide +kernel
theorem dX9_start_47 : decode cX9_start 47 = .ok (.istore_n 3, 1) := by decide +kernel
theorem dX9_start_48 : decode cX9_start 48 = .ok (.aload_n 0, 1) := by decide +kernel
theorem dX9_start_49 : decode cX9_start 49 = .ok (.iload_n 3, 1) := by decide +kernel
theorem dX9_start_50 : decode cX9_start 50 = .ok (.invokevirtual 253, 3) := by decide +kernel
theorem dX9_start_53 : decode cX9_start 53 = .ok (.iload_n 3, 1) := by decide +kernel
theorem dX9_start_54 : decode cX9_start 54 = .ok (.ireturn, 1) := by decide +kernel
theorem dX9_needs___0 : decode cX9_needs__ 0 = .ok (.aload_n 0, 1) := by decide +kernel
theorem dX9_needs___1 : decode cX9_needs__ 1 = .ok (.iload_n 1, 1) := by decide +kernel
theorem dX9_needs___2 : decode cX9_needs__ 2 = .ok (.ifCond .ne 7, 3) := by decide +kernel
theorem dX9_needs___5 : decode cX9_needs__ 5 = .ok (.iconst 1, 1) := by decide +kernel
theorem dX9_needs___6 : decode cX9_needs__ 6 = .ok (.goto 20, 3) := by decide +kernel
theorem dX9_needs___9 : decode cX9_needs__ 9 = .ok (.iload_n 2, 1) := by decide +kernel
theorem dX9_needs___10 : decode cX9_needs__ 10 = .ok (.ifCond .ne 7, 3) := by decide +kernel
theorem dX9_needs___13 : decode cX9_needs__ 13 = .ok (.iconst 2, 1) := by decide +kernel
theorem dX9_needs___14 : decode cX9_needs__ 14 = .ok (.goto 12, 3) := by decide +kernel
theorem dX9_needs___17 : decode cX9_needs__ 17 = .ok (.iload_n 3, 1) := by decide +kernel
theorem dX9_needs___18 : decode cX9_needs__ 18 = .ok (.ifCond .eq 7, 3) := by decide +kernel
theorem dX9_needs___21 : decode cX9_needs__ 21 = .ok (.iconst 0, 1) := by decide +kernel
theorem dX9_needs___22 : decode cX9_needs__ 22 = .ok (.goto 4, 3) := by decide +kernel
theorem dX9_needs___25 : decode cX9_needs__ 25 = .ok (.iconst 3, 1) := by decide +kernel
theorem dX9_needs___26 : decode cX9_needs__ 26 = .ok (.putfield 90, 3) := by decide +kernel
theorem dX9_needs___29 : decode cX9_needs__ 29 = .ok (.aload_n 0, 1) := by decide +kernel
theorem dX9_needs___30 : decode cX9_needs__ 30 = .ok (.getfield 90, 3) := by decide +kernel
theorem dX9_needs___33 : decode cX9_needs__ 33 = .ok (.ifCond .ne 7, 3) := by decide +kernel
theorem dX9_needs___36 : decode cX9_needs__ 36 = .ok (.iconst 1, 1) := by decide +kernel
theorem dX9_needs___37 : decode cX9_needs__ 37 = .ok (.goto 4, 3) := by decide +kernel
theorem dX9_needs___40 : decode cX9_needs__ 40 = .ok (.iconst 0, 1) := by decide +kernel
theorem dX9_needs___41 : decode cX9_needs__ 41 = .ok (.ireturn, 1) := by decide +kernel
theorem dX9_signal_0 : decode cX9_signal 0 = .ok (.aload_n 0, 1) := by decide +kernel
theorem dX9_signal_1 : decode cX9_signal 1 = .ok (.aload_n 0, 1) := by decide +kernel
theorem dX9_signal_2 : decode cX9_signal 2 = .ok (.iload_n 1, 1) := by decide +kernel
theorem dX9_signal_3 : decode cX9_signal 3 = .ok (.invokevirtual 262, 3) := by decide +kernel
theorem dX9_signal_6 : decode cX9_signal 6 = .ok (.iload_n 2, 1) := by decide +kernel
theorem dX9_signal_7 : decode cX9_signal 7 = .ok (.iconst 0, 1) := by decide +kernel
theorem dX9_signal_8 : decode cX9_signal 8 = .ok (.bipush 99, 2) := by decide +kernel
theorem dX9_signal_10 : decode cX9_signal 10 = .ok (.invokestatic 96, 3) := by decide +kernel
theorem dX9_signal_13 : decode cX9_signal 13 = .ok (.ifCond .eq 17, 3) := by decide +kernel
theorem dX9_signal_16 : decode cX9_signal 16 = .ok (.iload_n 3, 1) := by decide +kernel
theorem dX9_signal_17 : decode cX9_signal 17 = .ok (.iconst 0, 1) := by decide +kernel
theorem dX9_signal_18 : decode cX9_signal 18 = .ok (.bipush 99, 2) := by decide +kernel
theorem dX9_signal_20 : decode cX9_signal 20 = .ok (.invokestatic 96, 3) := by decide +kernel
theorem dX9_signal_23 : decode cX9_signal 23 = .ok (.ifCond .eq 7, 3) := by decide +kernel
theorem dX9_signal_26 : decode cX9_signal 26 = .ok (.iconst 1, 1) := by decide +kernel
theorem dX9_signal_27 : decode cX9_signal 27 = .ok (.goto 4, 3) := by decide +kernel
theorem dX9_signal_30 : decode cX9_signal 30 = .ok (.iconst 0, 1) := by decide +kernel
theorem dX9_signal_31 : decode cX9_signal 31 = .ok (.invokevirtual 245, 3) := by decide +kernel
theorem dX9_signal_34 : decode cX9_signal 34 = .ok (.ifCond .eq 26, 3) := by decide +kernel
theorem dX9_signal_37 : decode cX9_signal 37 = .ok (.aload_n 0, 1) := by decide +kernel
theorem dX9_signal_38 : decode cX9_signal 38 = .ok (.iload_n 1, 1) := by decide +kernel
theorem dX9_signal_39 : decode cX9_signal 39 = .ok (.bipush 6, 2) := by decide +kernel
theorem dX9_signal_41 : decode cX9_signal 41 = .ok (.ldc2_w 147, 3) := by decide +kernel
theorem dX9_signal_44 : decode cX9_signal 44 = .ok (.iload_n 2, 1) := by decide +kernel
theorem dX9_signal_45 : decode cX9_signal 45 = .ok (.i2l, 1) := by decide +kernel
theorem dX9_signal_46 : decode cX9_signal 46 = .ok (.lmul, 1) := by decide +kernel
theorem dX9_signal_47 : decode cX9_signal 47 = .ok (.iload_n 3, 1) := by decide +kernel
theorem dX9_signal_48 : decode cX9_signal 48 = .ok (.i2l, 1) := by decide +kernel
theorem dX9_signal_49 : decode cX9_signal 49 = .ok (.ladd, 1) := by decide +kernel
theorem dX9_signal_50 : decode cX9_signal 50 = .ok (.invokevirtual 265, 3) := by decide +kernel
theorem dX9_signal_53 : decode cX9_signal 53 = .ok (.ifCond .eq 7, 3) := by decide +kernel
theorem dX9_signal_56 : decode cX9_signal 56 = .ok (.iconst 1, 1) := by decide +kernel
theorem dX9_signal_57 : decode cX9_signal 57 = .ok (.goto 4, 3) := by decide +kernel
theorem dX9_signal_60 : decode cX9_signal 60 = .ok (.iconst 0, 1) := by decide +kernel
theorem dX9_signal_61 : decode cX9_signal 61 = .ok (.ireturn, 1) := by decide +kernel
theorem dX9_isWorkflow_0 : decode cX9_isWorkflow 0 = .ok (.iload_n 1, 1) := by decide +kernel
theorem dX9_isWorkflow_1 : decode cX9_isWorkflow 1 = .ok (.iconst 0, 1) := by decide +kernel
theorem dX9_isWorkflow_2 : decode cX9_isWorkflow 2 = .ok (.aload_n 0, 1) := by decide +kernel
theorem dX9_isWorkflow_3 : decode cX9_isWorkflow 3 = .ok (.getfield 93, 3) := by decide +kernel
theorem dX9_isWorkflow_6 : decode cX9_isWorkflow 6 = .ok (.iconst 1, 1) := by decide +kernel
theorem dX9_isWorkflow_7 : decode cX9_isWorkflow 7 = .ok (.isub, 1) := by decide +kernel
theorem dX9_isWorkflow_8 : decode cX9_isWorkflow 8 = .ok (.invokestatic 96, 3) := by decide +kernel
theorem dX9_isWorkflow_11 : decode cX9_isWorkflow 11 = .ok (.ireturn, 1) := by decide +kernel
theorem dX9_tells_0 : decode cX9_tells 0 = .ok (.aload_n 0, 1) := by decide +kernel
theorem dX9_tells_1 : decode cX9_tells 1 = .ok (.getfield 32, 3) := by decide +kernel
theorem dX9_tells_4 : decode cX9_tells 4 = .ok (.iload_n 1, 1) := by decide +kernel
theorem dX9_tells_5 : decode cX9_tells 5 = .ok (.iaload, 1) := by decide +kernel
theorem dX9_tells_6 : decode cX9_tells 6 = .ok (.ifCond .gt 14, 3) := by decide +kernel
theorem dX9_tells_9 : decode cX9_tells 9 = .ok (.aload_n 0, 1) := by decide +kernel
theorem dX9_tells_10 : decode cX9_tells 10 = .ok (.getfield 35, 3) := by decide +kernel
theorem dX9_tells_13 : decode cX9_tells 13 = .ok (.iload_n 1, 1) := by decide +kernel
theorem dX9_tells_14 : decode cX9_tells 14 = .ok (.iaload, 1) := by decide +kernel
theorem dX9_tells_15 : decode cX9_tells 15 = .ok (.bipush 90, 2) := by decide +kernel
theorem dX9_tells_17 : decode cX9_tells 17 = .ok (.if_icmp .lt 5, 3) := by decide +kernel
theorem dX9_tells_20 : decode cX9_tells 20 = .ok (.iconst 0, 1) := by decide +kernel
theorem dX9_tells_21 : decode cX9_tells 21 = .ok (.ireturn, 1) := by decide +kernel
theorem dX9_tells_22 : decode cX9_tells 22 = .ok (.aload_n 0, 1) := by decide +kernel
theorem dX9_tells_23 : decode cX9_tells 23 = .ok (.iload_n 1, 1) := by decide +kernel
theorem dX9_tells_24 : decode cX9_tells 24 = .ok (.iload_n 2, 1) := by decide +kernel
theorem dX9_tells_25 : decode cX9_tells 25 = .ok (.lload_n 3, 1) := by decide +kernel
theorem dX9_tells_26 : decode cX9_tells 26 = .ok (.invokevirtual 143, 3) := by decide +kernel
theorem dX9_tells_29 : decode cX9_tells 29 = .ok (.aload_n 0, 1) := by decide +kernel
theorem dX9_tells_30 : decode cX9_tells 30 = .ok (.iload_n 1, 1) := by decide +kernel
theorem dX9_tells_31 : decode cX9_tells 31 = .ok (.invokevirtual 253, 3) := by decide +kernel
theorem dX9_tells_34 : decode cX9_tells 34 = .ok (.iconst 1, 1) := by decide +kernel
theorem dX9_tells_35 : decode cX9_tells 35 = .ok (.ireturn, 1) := by decide +kernel
theorem dX9_cancel_0 : decode cX9_cancel 0 = .ok (.aload_n 0, 1) := by decide +kernel
theorem dX9_cancel_1 : decode cX9_cancel 1 = .ok (.aload_n 0, 1) := by decide +kernel
theorem dX9_cancel_2 : decode cX9_cancel 2 = .ok (.iload_n 1, 1) := by decide +kernel
theorem dX9_cancel_3 : decode cX9_cancel 3 = .ok (.invokevirtual 262, 3) := by decide +kernel
theorem dX9_cancel_6 : decode cX9_cancel 6 = .ok (.invokevirtual 269, 3) := by decide +kernel
theorem dX9_cancel_9 : decode cX9_cancel 9 = .ok (.ifCond .eq 18, 3) := by decide +kernel
theorem dX9_cancel_12 : decode cX9_cancel 12 = .ok (.aload_n 0, 1) := by decide +kernel
theorem dX9_cancel_13 : decode cX9_cancel 13 = .ok (.iload_n 1, 1) := by decide +kernel
theorem dX9_cancel_14 : decode cX9_cancel 14 = .ok (.bipush 12, 2) := by decide +kernel
theorem dX9_cancel_16 : decode cX9_cancel 16 = .ok (.lconst 0, 1) := by decide +kernel
theorem dX9_cancel_17 : decode cX9_cancel 17 = .ok (.invokevirtual 265, 3) := by decide +kernel
theorem dX9_cancel_20 : decode cX9_cancel 20 = .ok (.ifCond .eq 7, 3) := by decide +kernel
theorem dX9_cancel_23 : decode cX9_cancel 23 = .ok (.iconst 1, 1) := by decide +kernel
theorem dX9_cancel_24 : decode cX9_cancel 24 = .ok (.goto 4, 3) := by decide +kernel
theorem dX9_cancel_27 : decode cX9_cancel 27 = .ok (.iconst 0, 1) := by decide +kernel
theorem dX9_cancel_28 : decode cX9_cancel 28 = .ok (.ireturn, 1) := by decide +kernel
theorem dX9_needs_0 : decode cX9_needs 0 = .ok (.aload_n 0, 1) := by decide +kernel
theorem dX9_needs_1 : decode cX9_needs 1 = .ok (.iload_n 1, 1) := by decide +kernel
theorem dX9_needs_2 : decode cX9_needs 2 = .ok (.ifCond .eq 7, 3) := by decide +kernel
theorem dX9_needs_5 : decode cX9_needs 5 = .ok (.iconst 0, 1) := by decide +kernel
theorem dX9_needs_6 : decode cX9_needs 6 = .ok (.goto 4, 3) := by decide +kernel
theorem dX9_needs_9 : decode cX9_needs 9 = .ok (.iconst 1, 1) := by decide +kernel
theorem dX9_needs_10 : decode cX9_needs 10 = .ok (.putfield 90, 3) := by decide +kernel
theorem dX9_needs_13 : decode cX9_needs 13 = .ok (.iload_n 1, 1) := by decide +kernel
theorem dX9_needs_14 : decode cX9_needs 14 = .ok (.ireturn, 1) := by decide +kernel
theorem dX9_reset_0 : decode cX9_reset 0 = .ok (.aload_n 0, 1) := by decide +kernel
theorem dX9_reset_1 : decode cX9_reset 1 = .ok (.iload_n 1, 1) := by decide +kernel
theorem dX9_reset_2 : decode cX9_reset 2 = .ok (.invokevirtual 262, 3) := by decide +kernel
theorem dX9_reset_5 : decode cX9_reset 5 = .ok (.istore_n 3, 1) := by decide +kernel
theorem dX9_reset_6 : decode cX9_reset 6 = .ok (.iload_n 3, 1) := by decide +kernel
theorem dX9_reset_7 : decode cX9_reset 7 = .ok (.ifCond .eq 36, 3) := by decide +kernel
theorem dX9_reset_10 : decode cX9_reset 10 = .ok (.iload_n 2, 1) := by decide +kernel
theorem dX9_reset_11 : decode cX9_reset 11 = .ok (.iconst 1, 1) := by decide +kernel
theorem dX9_reset_12 : decode cX9_reset 12 = .ok (.aload_n 0, 1) := by decide +kernel
theorem dX9_reset_13 : decode cX9_reset 13 = .ok (.getfield 35, 3) := by decide +kernel
theorem dX9_reset_16 : decode cX9_reset 16 = .ok (.iload_n 1, 1) := by decide +kernel
theorem dX9_reset_17 : decode cX9_reset 17 = .ok (.iaload, 1) := by decide +kernel
theorem dX9_reset_18 : decode cX9_reset 18 = .ok (.aload_n 0, 1) := by decide +kernel
theorem dX9_reset_19 : decode cX9_reset 19 = .ok (.getfield 32, 3) := by decide +kernel
theorem dX9_reset_22 : decode cX9_reset 22 = .ok (.iload_n 1, 1) := by decide +kernel
theorem dX9_reset_23 : decode cX9_reset 23 = .ok (.iaload, 1) := by decide +kernel
theorem dX9_reset_24 : decode cX9_reset 24 = .ok (.ifCond .le 7, 3) := by decide +kernel
theorem dX9_reset_27 : decode cX9_reset 27 = .ok (.iconst 1, 1) := by decide +kernel
theorem dX9_reset_28 : decode cX9_reset 28 = .ok (.goto 4, 3) := by decide +kernel
theorem dX9_reset_31 : decode cX9_reset 31 = .ok (.iconst 0, 1) := by decide +kernel
theorem dX9_reset_32 : decode cX9_reset 32 = .ok (.isub, 1) := by decide +kernel
theorem dX9_reset_33 : decode cX9_reset 33 = .ok (.invokestatic 96, 3) := by decide +kernel
theorem dX9_reset_36 : decode cX9_reset 36 = .ok (.ifCond .eq 7, 3) := by decide +kernel
theorem dX9_reset_39 : decode cX9_reset 39 = .ok (.iconst 1, 1) := by decide +kernel
theorem dX9_reset_40 : decode cX9_reset 40 = .ok (.goto 4, 3) := by decide +kernel
theorem dX9_reset_43 : decode cX9_reset 43 = .ok (.iconst 0, 1) := by decide +kernel
theorem dX9_reset_44 : decode cX9_reset 44 = .ok (.istore 4, 2) := by decide +kernel
theorem dX9_reset_46 : decode cX9_reset 46 = .ok (.aload_n 0, 1) := by decide +kernel
theorem dX9_reset_47 : decode cX9_reset 47 = .ok (.iload_n 3, 1) := by decide +kernel
theorem dX9_reset_48 : decode cX9_reset 48 = .ok (.iload 4, 2) := by decide +kernel
theorem dX9_reset_50 : decode cX9_reset 50 = .ok (.iload 4, 2) := by decide +kernel
theorem dX9_reset_52 : decode cX9_reset 52 = .ok (.ifCond .eq 16, 3) := by decide +kernel
theorem dX9_reset_55 : decode cX9_reset 55 = .ok (.aload_n 0, 1) := by decide +kernel
theorem dX9_reset_56 : decode cX9_reset 56 = .ok (.iload_n 1, 1) := by decide +kernel
theorem dX9_reset_57 : decode cX9_reset 57 = .ok (.iload_n 2, 1) := by decide +kernel
theorem dX9_reset_58 : decode cX9_reset 58 = .ok (.invokevirtual 272, 3) := by decide +kernel
theorem dX9_reset_61 : decode cX9_reset 61 = .ok (.ifCond .eq 7, 3) := by decide +kernel
theorem dX9_reset_64 : decode cX9_reset 64 = .ok (.iconst 1, 1) := by decide +kernel
theorem dX9_reset_65 : decode cX9_reset 65 = .ok (.goto 4, 3) := by decide +kernel
theorem dX9_reset_68 : decode cX9_reset 68 = .ok (.iconst 0, 1) := by decide +kernel
theorem dX9_reset_69 : decode cX9_reset 69 = .ok (.invokevirtual 259, 3) := by decide +kernel
theorem dX9_reset_72 : decode cX9_reset 72 = .ok (.ifCond .ne 5, 3) := by decide +kernel
theorem dX9_reset_75 : decode cX9_reset 75 = .ok (.iconst 0, 1) := by decide +kernel
theorem dX9_reset_76 : decode cX9_reset 76 = .ok (.ireturn, 1) := by decide +kernel
theorem dX9_reset_77 : decode cX9_reset 77 = .ok (.aload_n 0, 1) := by decide +kernel
theorem dX9_reset_78 : decode cX9_reset 78 = .ok (.aload_n 0, 1) := by decide +kernel
theorem dX9_reset_79 : decode cX9_reset 79 = .ok (.getfield 23, 3) := by decide +kernel
theorem dX9_reset_82 : decode cX9_reset 82 = .ok (.iload_n 1, 1) := by decide +kernel
theorem dX9_reset_83 : decode cX9_reset 83 = .ok (.iaload, 1) := by decide +kernel
theorem dX9_reset_84 : decode cX9_reset 84 = .ok (.iconst 0, 1) := by decide +kernel
theorem dX9_reset_85 : decode cX9_reset 85 = .ok (.iconst (-1), 1) := by decide +kernel
theorem dX9_reset_86 : decode cX9_reset 86 = .ok (.iconst (-1), 1) := by decide +kernel
theorem dX9_reset_87 : decode cX9_reset 87 = .ok (.invokevirtual 168, 3) := by decide +kernel
theorem dX9_reset_90 : decode cX9_reset 90 = .ok (.istore 5, 2) := by decide +kernel
theorem dX9_reset_92 : decode cX9_reset 92 = .ok (.aload_n 0, 1) := by decide +kernel
theorem dX9_reset_93 : decode cX9_reset 93 = .ok (.iload_n 1, 1) := by decide +kernel
theorem dX9_reset_94 : decode cX9_reset 94 = .ok (.iload 5, 2) := by decide +kernel
theorem dX9_reset_96 : decode cX9_reset 96 = .ok (.iload_n 2, 1) := by decide +kernel
theorem dX9_reset_97 : decode cX9_reset 97 = .ok (.invokevirtual 275, 3) := by decide +kernel
theorem dX9_reset_100 : decode cX9_reset 100 = .ok (.aload_n 0, 1) := by decide +kernel
theorem dX9_reset_101 : decode cX9_reset 101 = .ok (.getfield 38, 3) := by decide +kernel
theorem dX9_reset_104 : decode cX9_reset 104 = .ok (.iload 5, 2) := by decide +kernel
theorem dX9_reset_106 : decode cX9_reset 106 = .ok (.iload_n 2, 1) := by decide +kernel
theorem dX9_reset_107 : decode cX9_reset 107 = .ok (.iastore, 1) := by decide +kernel
theorem dX9_reset_108 : decode cX9_reset 108 = .ok (.aload_n 0, 1) := by decide +kernel
theorem dX9_reset_109 : decode cX9_reset 109 = .ok (.iload 5, 2) := by decide +kernel
theorem dX9_reset_111 : decode cX9_reset 111 = .ok (.invokevirtual 253, 3) := by decide +kernel
theorem dX9_reset_114 : decode cX9_reset 114 = .ok (.iload_n 2, 1) := by decide +kernel
theorem dX9_reset_115 : decode cX9_reset 115 = .ok (.istore 6, 2) := by decide +kernel
theorem dX9_reset_117 : decode cX9_reset 117 = .ok (.iload 6, 2) := by decide +kernel
theorem dX9_reset_119 : decode cX9_reset 119 = .ok (.aload_n 0, 1) := by decide +kernel
theorem dX9_reset_120 : decode cX9_reset 120 = .ok (.getfield 35, 3) := by decide +kernel
theorem dX9_reset_123 : decode cX9_reset 123 = .ok (.iload_n 1, 1) := by decide +kernel
theorem dX9_reset_124 : decode cX9_reset 124 = .ok (.iaload, 1) := by decide +kernel
theorem dX9_reset_125 : decode cX9_reset 125 = .ok (.if_icmp .ge 49, 3) := by decide +kernel
theorem dX9_reset_128 : decode cX9_reset 128 = .ok (.aload_n 0, 1) := by decide +kernel
theorem dX9_reset_129 : decode cX9_reset 129 = .ok (.getfield 44, 3) := by decide +kernel
theorem dX9_reset_132 : decode cX9_reset 132 = .ok (.sipush 160, 3) := by decide +kernel
theorem dX9_reset_135 : decode cX9_reset 135 = .ok (.iload_n 1, 1) := by decide +kernel
theorem dX9_reset_136 : decode cX9_reset 136 = .ok (.imul, 1) := by decide +kernel
theorem dX9_reset_137 : decode cX9_reset 137 = .ok (.iload 6, 2) := by decide +kernel
theorem dX9_reset_139 : decode cX9_reset 139 = .ok (.iadd, 1) := by decide +kernel
theorem dX9_reset_140 : decode cX9_reset 140 = .ok (.iaload, 1) := by decide +kernel
theorem dX9_reset_141 : decode cX9_reset 141 = .ok (.bipush 6, 2) := by decide +kernel
theorem dX9_reset_143 : decode cX9_reset 143 = .ok (.if_icmp .ne 25, 3) := by decide +kernel
theorem dX9_reset_146 : decode cX9_reset 146 = .ok (.aload_n 0, 1) := by decide +kernel
theorem dX9_reset_147 : decode cX9_reset 147 = .ok (.iload 5, 2) := by decide +kernel
theorem dX9_reset_149 : decode cX9_reset 149 = .ok (.bipush 6, 2) := by decide +kernel
theorem dX9_reset_151 : decode cX9_reset 151 = .ok (.aload_n 0, 1) := by decide +kernel
theorem dX9_reset_152 : decode cX9_reset 152 = .ok (.getfield 47, 3) := by decide +kernel
theorem dX9_reset_155 : decode cX9_reset 155 = .ok (.sipush 160, 3) := by decide +kernel
theorem dX9_reset_158 : decode cX9_reset 158 = .ok (.iload_n 1, 1) := by decide +kernel
theorem dX9_reset_159 : decode cX9_reset 159 = .ok (.imul, 1) := by decide +kernel
theorem dX9_reset_160 : decode cX9_reset 160 = .ok (.iload 6, 2) := by decide +kernel
theorem dX9_reset_162 : decode cX9_reset 162 = .ok (.iadd, 1) := by decide +kernel
theorem dX9_reset_163 : decode cX9_reset 163 = .ok (.laload, 1) := by decide +kernel
theorem dX9_reset_164 : decode cX9_reset 164 = .ok (.invokevirtual 265, 3) := by decide +kernel
theorem dX9_reset_167 : decode cX9_reset 167 = .ok (.pop, 1) := by decide +kernel
theorem dX9_reset_168 : decode cX9_reset 168 = .ok (.iinc 6 1, 3) := by decide +kernel
theorem dX9_reset_171 : decode cX9_reset 171 = .ok (.goto (-54), 3) := by decide +kernel
theorem dX9_reset_174 : decode cX9_reset 174 = .ok (.iload 5, 2) := by decide +kernel
theorem dX9_reset_176 : decode cX9_reset 176 = .ok (.ireturn, 1) := by decide +kernel
theorem dX9_canReset_0 : decode cX9_canReset 0 = .ok (.aload_n 0, 1) := by decide +kernel
theorem dX9_canReset_1 : decode cX9_canReset 1 = .ok (.getfield 32, 3) := by decide +kernel
theorem dX9_canReset_4 : decode cX9_canReset 4 = .ok (.iload_n 1, 1) := by decide +kernel
theorem dX9_canReset_5 : decode cX9_canReset 5 = .ok (.iaload, 1) := by decide +kernel
theorem dX9_canReset_6 : decode cX9_canReset 6 = .ok (.ifCond .eq 12, 3) := by decide +kernel
theorem dX9_canReset_9 : decode cX9_canReset 9 = .ok (.aload_n 0, 1) := by decide +kernel
theorem dX9_canReset_10 : decode cX9_canReset 10 = .ok (.getfield 93, 3) := by decide +kernel
theorem dX9_canReset_13 : decode cX9_canReset 13 = .ok (.bipush 40, 2) := by decide +kernel
theorem dX9_canReset_15 : decode cX9_canReset 15 = .ok (.if_icmp .ne 5, 3) := by decide +kernel
theorem dX9_canReset_18 : decode cX9_canReset 18 = .ok (.iconst 0, 1) := by decide +kernel
theorem dX9_canReset_19 : decode cX9_canReset 19 = .ok (.ireturn, 1) := by decide +kernel
theorem dX9_canReset_20 : decode cX9_canReset 20 = .ok (.aload_n 0, 1) := by decide +kernel
theorem dX9_canReset_21 : decode cX9_canReset 21 = .ok (.getfield 23, 3) := by decide +kernel
theorem dX9_canReset_24 : decode cX9_canReset 24 = .ok (.bipush 40, 2) := by decide +kernel
theorem dX9_canReset_26 : decode cX9_canReset 26 = .ok (.aload_n 0, 1) := by decide +kernel
theorem dX9_canReset_27 : decode cX9_canReset 27 = .ok (.getfield 23, 3) := by decide +kernel
theorem dX9_canReset_30 : decode cX9_canReset 30 = .ok (.iload_n 1, 1) := by decide +kernel
theorem dX9_canReset_31 : decode cX9_canReset 31 = .ok (.iaload, 1) := by decide +kernel
theorem dX9_canReset_32 : decode cX9_canReset 32 = .ok (.iastore, 1) := by decide +kernel
theorem dX9_canReset_33 : decode cX9_canReset 33 = .ok (.aload_n 0, 1) := by decide +kernel
theorem dX9_canReset_34 : decode cX9_canReset 34 = .ok (.getfield 26, 3) := by decide +kernel
theorem dX9_canReset_37 : decode cX9_canReset 37 = .ok (.bipush 40, 2) := by decide +kernel
theorem dX9_canReset_39 : decode cX9_canReset 39 = .ok (.iconst (-1), 1) := by decide +kernel
theorem dX9_canReset_40 : decode cX9_canReset 40 = .ok (.iastore, 1) := by decide +kernel
theorem dX9_canReset_41 : decode cX9_canReset 41 = .ok (.aload_n 0, 1) := by decide +kernel
theorem dX9_canReset_42 : decode cX9_canReset 42 = .ok (.iload_n 1, 1) := by decide +kernel
theorem dX9_canReset_43 : decode cX9_canReset 43 = .ok (.bipush 40, 2) := by decide +kernel
theorem dX9_canReset_45 : decode cX9_canReset 45 = .ok (.iload_n 2, 1) := by decide +kernel
theorem dX9_canReset_46 : decode cX9_canReset 46 = .ok (.invokevirtual 275, 3) := by decide +kernel
theorem dX9_canReset_49 : decode cX9_canReset 49 = .ok (.aload_n 0, 1) := by decide +kernel
theorem dX9_canReset_50 : decode cX9_canReset 50 = .ok (.bipush 40, 2) := by decide +kernel
theorem dX9_canReset_52 : decode cX9_canReset 52 = .ok (.iload_n 2, 1) := by decide +kernel
theorem dX9_canReset_53 : decode cX9_canReset 53 = .ok (.iconst 0, 1) := by decide +kernel
theorem dX9_canReset_54 : decode cX9_canReset 54 = .ok (.invokevirtual 216, 3) := by decide +kernel
theorem dX9_canReset_57 : decode cX9_canReset 57 = .ok (.pop, 1) := by decide +kernel
theorem dX9_canReset_58 : decode cX9_canReset 58 = .ok (.aload_n 0, 1) := by decide +kernel
theorem dX9_canReset_59 : decode cX9_canReset 59 = .ok (.getfield 103, 3) := by decide +kernel
theorem dX9_canReset_62 : decode cX9_canReset 62 = .ok (.ifCond .eq 15, 3) := by decide +kernel
theorem dX9_canReset_65 : decode cX9_canReset 65 = .ok (.aload_n 0, 1) := by decide +kernel
theorem dX9_canReset_66 : decode cX9_canReset 66 = .ok (.getfield 116, 3) := by decide +kernel
theorem dX9_canReset_69 : decode cX9_canReset 69 = .ok (.iconst 5, 1) := by decide +kernel
theorem dX9_canReset_70 : decode cX9_canReset 70 = .ok (.if_icmp .eq 7, 3) := by decide +kernel
theorem dX9_canReset_73 : decode cX9_canReset 73 = .ok (.iconst 1, 1) := by decide +kernel
theorem dX9_canReset_74 : decode cX9_canReset 74 = .ok (.goto 4, 3) := by decide +kernel
theorem dX9_canReset_77 : decode cX9_canReset 77 = .ok (.iconst 0, 1) := by decide +kernel
theorem dX9_canReset_78 : decode cX9_canReset 78 = .ok (.ireturn, 1) := by decide +kernel
theorem dX9_copies_0 : decode cX9_copies 0 = .ok (.iconst 0, 1) := by decide +kernel
theorem dX9_copies_1 : decode cX9_copies 1 = .ok (.istore 4, 2) := by decide +kernel
theorem dX9_copies_3 : decode cX9_copies 3 = .ok (.iload 4, 2) := by decide +kernel
theorem dX9_copies_5 : decode cX9_copies 5 = .ok (.iload_n 3, 1) := by decide +kernel
theorem dX9_copies_6 : decode cX9_copies 6 = .ok (.if_icmp .ge 61, 3) := by decide +kernel
theorem dX9_copies_9 : decode cX9_copies 9 = .ok (.aload_n 0, 1) := by decide +kernel
theorem dX9_copies_10 : decode cX9_copies 10 = .ok (.getfield 44, 3) := by decide +kernel
theorem dX9_copies_13 : decode cX9_copies 13 = .ok (.sipush 160, 3) := by decide +kernel
theorem dX9_copies_16 : decode cX9_copies 16 = .ok (.iload_n 2, 1) := by decide +kernel
theorem dX9_copies_17 : decode cX9_copies 17 = .ok (.imul, 1) := by decide +kernel
theorem dX9_copies_18 : decode cX9_copies 18 = .ok (.iload 4, 2) := by decide +kernel
theorem dX9_copies_20 : decode cX9_copies 20 = .ok (.iadd, 1) := by decide +kernel
theorem dX9_copies_21 : decode cX9_copies 21 = .ok (.aload_n 0, 1) := by decide +kernel
theorem dX9_copies_22 : decode cX9_copies 22 = .ok (.getfield 44, 3) := by decide +kernel
theorem dX9_copies_25 : decode cX9_copies 25 = .ok (.sipush 160, 3) := by decide +kernel
theorem dX9_copies_28 : decode cX9_copies 28 = .ok (.iload_n 1, 1) := by decide +kernel
theorem dX9_copies_29 : decode cX9_copies 29 = .ok (.imul, 1) := by decide +kernel
theorem dX9_copies_30 : decode cX9_copies 30 = .ok (.iload 4, 2) := by decide +kernel
theorem dX9_copies_32 : decode cX9_copies 32 = .ok (.iadd, 1) := by decide +kernel
theorem dX9_copies_33 : decode cX9_copies 33 = .ok (.iaload, 1) := by decide +kernel
theorem dX9_copies_34 : decode cX9_copies 34 = .ok (.iastore, 1) := by decide +kernel
theorem dX9_copies_35 : decode cX9_copies 35 = .ok (.aload_n 0, 1) := by decide +kernel
theorem dX9_copies_36 : decode cX9_copies 36 = .ok (.getfield 47, 3) := by decide +kernel
theorem dX9_copies_39 : decode cX9_copies 39 = .ok (.sipush 160, 3) := by decide +kernel
theorem dX9_copies_42 : decode cX9_copies 42 = .ok (.iload_n 2, 1) := by decide +kernel
theorem dX9_copies_43 : decode cX9_copies 43 = .ok (.imul, 1) := by decide +kernel
theorem dX9_copies_44 : decode cX9_copies 44 = .ok (.iload 4, 2) := by decide +kernel
theorem dX9_copies_46 : decode cX9_copies 46 = .ok (.iadd, 1) := by decide +kernel
theorem dX9_copies_47 : decode cX9_copies 47 = .ok (.aload_n 0, 1) := by decide +kernel
theorem dX9_copies_48 : decode cX9_copies 48 = .ok (.getfield 47, 3) := by decide +kernel
theorem dX9_copies_51 : decode cX9_copies 51 = .ok (.sipush 160, 3) := by decide +kernel
theorem dX9_copies_54 : decode cX9_copies 54 = .ok (.iload_n 1, 1) := by decide +kernel
theorem dX9_copies_55 : decode cX9_copies 55 = .ok (.imul, 1) := by decide +kernel
theorem dX9_copies_56 : decode cX9_copies 56 = .ok (.iload 4, 2) := by decide +kernel
theorem dX9_copies_58 : decode cX9_copies 58 = .ok (.iadd, 1) := by decide +kernel
theorem dX9_copies_59 : decode cX9_copies 59 = .ok (.laload, 1) := by decide +kernel
theorem dX9_copies_60 : decode cX9_copies 60 = .ok (.lastore, 1) := by decide +kernel
theorem dX9_copies_61 : decode cX9_copies 61 = .ok (.iinc 4 1, 3) := by decide +kernel
theorem dX9_copies_64 : decode cX9_copies 64 = .ok (.goto (-61), 3) := by decide +kernel
theorem dX9_copies_67 : decode cX9_copies 67 = .ok (.aload_n 0, 1) := by decide +kernel
theorem dX9_copies_68 : decode cX9_copies 68 = .ok (.getfield 35, 3) := by decide +kernel
theorem dX9_copies_71 : decode cX9_copies 71 = .ok (.iload_n 2, 1) := by decide +kernel
theorem dX9_copies_72 : decode cX9_copies 72 = .ok (.iload_n 3, 1) := by decide +kernel
theorem dX9_copies_73 : decode cX9_copies 73 = .ok (.iastore, 1) := by decide +kernel
theorem dX9_copies_74 : decode cX9_copies 74 = .ok (.return_, 1) := by decide +kernel
theorem dX9_crash_0 : decode cX9_crash 0 = .ok (.aload_n 0, 1) := by decide +kernel
theorem dX9_crash_1 : decode cX9_crash 1 = .ok (.iconst 0, 1) := by decide +kernel
theorem dX9_crash_2 : decode cX9_crash 2 = .ok (.putfield 90, 3) := by decide +kernel
theorem dX9_crash_5 : decode cX9_crash 5 = .ok (.iconst 0, 1) := by decide +kernel
theorem dX9_crash_6 : decode cX9_crash 6 = .ok (.istore_n 1, 1) := by decide +kernel
theorem dX9_crash_7 : decode cX9_crash 7 = .ok (.iconst 0, 1) := by decide +kernel
theorem dX9_crash_8 : decode cX9_crash 8 = .ok (.istore_n 2, 1) := by decide +kernel
theorem dX9_crash_9 : decode cX9_crash 9 = .ok (.iload_n 2, 1) := by decide +kernel
theorem dX9_crash_10 : decode cX9_crash 10 = .ok (.aload_n 0, 1) := by decide +kernel
theorem dX9_crash_11 : decode cX9_crash 11 = .ok (.getfield 93, 3) := by decide +kernel
theorem dX9_crash_14 : decode cX9_crash 14 = .ok (.if_icmp .ge 26, 3) := by decide +kernel
theorem dX9_crash_17 : decode cX9_crash 17 = .ok (.iload_n 1, 1) := by decide +kernel
theorem dX9_crash_18 : decode cX9_crash 18 = .ok (.aload_n 0, 1) := by decide +kernel
theorem dX9_crash_19 : decode cX9_crash 19 = .ok (.getfield 32, 3) := by decide +kernel
theorem dX9_crash_22 : decode cX9_crash 22 = .ok (.iload_n 2, 1) := by decide +kernel
theorem dX9_crash_23 : decode cX9_crash 23 = .ok (.iaload, 1) := by decide +kernel
theorem dX9_crash_24 : decode cX9_crash 24 = .ok (.ifCond .ne 7, 3) := by decide +kernel
theorem dX9_crash_27 : decode cX9_crash 27 = .ok (.iconst 1, 1) := by decide +kernel
theorem dX9_crash_28 : decode cX9_crash 28 = .ok (.goto 4, 3) := by decide +kernel
theorem dX9_crash_31 : decode cX9_crash 31 = .ok (.iconst 0, 1) := by decide +kernel
theorem dX9_crash_32 : decode cX9_crash 32 = .ok (.iadd, 1) := by decide +kernel
theorem dX9_crash_33 : decode cX9_crash 33 = .ok (.istore_n 1, 1) := by decide +kernel
theorem dX9_crash_34 : decode cX9_crash 34 = .ok (.iinc 2 1, 3) := by decide +kernel
theorem dX9_crash_37 : decode cX9_crash 37 = .ok (.goto (-28), 3) := by decide +kernel
theorem dX9_crash_40 : decode cX9_crash 40 = .ok (.iload_n 1, 1) := by decide +kernel
theorem dX9_crash_41 : decode cX9_crash 41 = .ok (.ireturn, 1) := by decide +kernel
theorem dX9_poll_0 : decode cX9_poll 0 = .ok (.aload_n 0, 1) := by decide +kernel
theorem dX9_poll_1 : decode cX9_poll 1 = .ok (.iconst 0, 1) := by decide +kernel
theorem dX9_poll_2 : decode cX9_poll 2 = .ok (.putfield 90, 3) := by decide +kernel
theorem dX9_poll_5 : decode cX9_poll 5 = .ok (.iconst (-1), 1) := by decide +kernel
theorem dX9_poll_6 : decode cX9_poll 6 = .ok (.istore_n 1, 1) := by decide +kernel
theorem dX9_poll_7 : decode cX9_poll 7 = .ok (.iconst 0, 1) := by decide +kernel
theorem dX9_poll_8 : decode cX9_poll 8 = .ok (.istore_n 2, 1) := by decide +kernel
theorem dX9_poll_9 : decode cX9_poll 9 = .ok (.iload_n 2, 1) := by decide +kernel
theorem dX9_poll_10 : decode cX9_poll 10 = .ok (.aload_n 0, 1) := by decide +kernel
theorem dX9_poll_11 : decode cX9_poll 11 = .ok (.getfield 100, 3) := by decide +kernel
theorem dX9_poll_14 : decode cX9_poll 14 = .ok (.if_icmp .ge 126, 3) := by decide +kernel
theorem dX9_poll_17 : decode cX9_poll 17 = .ok (.aload_n 0, 1) := by decide +kernel
theorem dX9_poll_18 : decode cX9_poll 18 = .ok (.getfield 57, 3) := by decide +kernel
theorem dX9_poll_21 : decode cX9_poll 21 = .ok (.iload_n 2, 1) := by decide +kernel
theorem dX9_poll_22 : decode cX9_poll 22 = .ok (.iaload, 1) := by decide +kernel
theorem dX9_poll_23 : decode cX9_poll 23 = .ok (.ifCond .ne 111, 3) := by decide +kernel
theorem dX9_poll_26 : decode cX9_poll 26 = .ok (.aload_n 0, 1) := by decide +kernel
theorem dX9_poll_27 : decode cX9_poll 27 = .ok (.aload_n 0, 1) := by decide +kernel
theorem dX9_poll_28 : decode cX9_poll 28 = .ok (.getfield 51, 3) := by decide +kernel
theorem dX9_poll_31 : decode cX9_poll 31 = .ok (.iload_n 2, 1) := by decide +kernel
theorem dX9_poll_32 : decode cX9_poll 32 = .ok (.iaload, 1) := by decide +kernel
theorem dX9_poll_33 : decode cX9_poll 33 = .ok (.invokevirtual 235, 3) := by decide +kernel
theorem dX9_poll_36 : decode cX9_poll 36 = .ok (.ifCond .eq 98, 3) := by decide +kernel
theorem dX9_poll_39 : decode cX9_poll 39 = .ok (.aload_n 0, 1) := by decide +kernel
theorem dX9_poll_40 : decode cX9_poll 40 = .ok (.getfield 23, 3) := by decide +kernel
theorem dX9_poll_43 : decode cX9_poll 43 = .ok (.aload_n 0, 1) := by decide +kernel
theorem dX9_poll_44 : decode cX9_poll 44 = .ok (.getfield 51, 3) := by decide +kernel
theorem dX9_poll_47 : decode cX9_poll 47 = .ok (.iload_n 2, 1) := by decide +kernel
theorem dX9_poll_48 : decode cX9_poll 48 = .ok (.iaload, 1) := by decide +kernel
theorem dX9_poll_49 : decode cX9_poll 49 = .ok (.iaload, 1) := by decide +kernel
theorem dX9_poll_50 : decode cX9_poll 50 = .ok (.istore_n 3, 1) := by decide +kernel
theorem dX9_poll_51 : decode cX9_poll 51 = .ok (.iload_n 1, 1) := by decide +kernel
theorem dX9_poll_52 : decode cX9_poll 52 = .ok (.iconst (-1), 1) := by decide +kernel
theorem dX9_poll_53 : decode cX9_poll 53 = .ok (.if_icmp .ne 7, 3) := by decide +kernel
theorem dX9_poll_56 : decode cX9_poll 56 = .ok (.iconst 0, 1) := by decide +kernel
theorem dX9_poll_57 : decode cX9_poll 57 = .ok (.goto 14, 3) := by decide +kernel
theorem dX9_poll_60 : decode cX9_poll 60 = .ok (.aload_n 0, 1) := by decide +kernel
theorem dX9_poll_61 : decode cX9_poll 61 = .ok (.getfield 23, 3) := by decide +kernel
theorem dX9_poll_64 : decode cX9_poll 64 = .ok (.aload_n 0, 1) := by decide +kernel
theorem dX9_poll_65 : decode cX9_poll 65 = .ok (.getfield 51, 3) := by decide +kernel
theorem dX9_poll_68 : decode cX9_poll 68 = .ok (.iload_n 1, 1) := by decide +kernel
theorem dX9_poll_69 : decode cX9_poll 69 = .ok (.iaload, 1) := by decide +kernel
theorem dX9_poll_70 : decode cX9_poll 70 = .ok (.iaload, 1) := by decide +kernel
theorem dX9_poll_71 : decode cX9_poll 71 = .ok (.istore 4, 2) := by decide +kernel
theorem dX9_poll_73 : decode cX9_poll 73 = .ok (.iload_n 1, 1) := by decide +kernel
theorem dX9_poll_74 : decode cX9_poll 74 = .ok (.iconst (-1), 1) := by decide +kernel
theorem dX9_poll_75 : decode cX9_poll 75 = .ok (.if_icmp .eq 41, 3) := by decide +kernel
theorem dX9_poll_78 : decode cX9_poll 78 = .ok (.aload_n 0, 1) := by decide +kernel
theorem dX9_poll_79 : decode cX9_poll 79 = .ok (.getfield 69, 3) := by decide +kernel
theorem dX9_poll_82 : decode cX9_poll 82 = .ok (.iload_n 3, 1) := by decide +kernel
theorem dX9_poll_83 : decode cX9_poll 83 = .ok (.iaload, 1) := by decide +kernel
theorem dX9_poll_84 : decode cX9_poll 84 = .ok (.aload_n 0, 1) := by decide +kernel
theorem dX9_poll_85 : decode cX9_poll 85 = .ok (.getfield 69, 3) := by decide +kernel
theorem dX9_poll_88 : decode cX9_poll 88 = .ok (.iload 4, 2) := by decide +kernel
theorem dX9_poll_90 : decode cX9_poll 90 = .ok (.iaload, 1) := by decide +kernel
theorem dX9_poll_91 : decode cX9_poll 91 = .ok (.if_icmp .lt 25, 3) := by decide +kernel
theorem dX9_poll_94 : decode cX9_poll 94 = .ok (.aload_n 0, 1) := by decide +kernel
theorem dX9_poll_95 : decode cX9_poll 95 = .ok (.getfield 69, 3) := by decide +kernel
theorem dX9_poll_98 : decode cX9_poll 98 = .ok (.iload_n 3, 1) := by decide +kernel
theorem dX9_poll_99 : decode cX9_poll 99 = .ok (.iaload, 1) := by decide +kernel
theorem dX9_poll_100 : decode cX9_poll 100 = .ok (.aload_n 0, 1) := by decide +kernel
theorem dX9_poll_101 : decode cX9_poll 101 = .ok (.getfield 69, 3) := by decide +kernel
theorem dX9_poll_104 : decode cX9_poll 104 = .ok (.iload 4, 2) := by decide +kernel
theorem dX9_poll_106 : decode cX9_poll 106 = .ok (.iaload, 1) := by decide +kernel
theorem dX9_poll_107 : decode cX9_poll 107 = .ok (.if_icmp .ne 13, 3) := by decide +kernel
theorem dX9_poll_110 : decode cX9_poll 110 = .ok (.iload_n 3, 1) := by decide +kernel
theorem dX9_poll_111 : decode cX9_poll 111 = .ok (.iload 4, 2) := by decide +kernel
theorem dX9_poll_113 : decode cX9_poll 113 = .ok (.if_icmp .ge 7, 3) := by decide +kernel
theorem dX9_poll_116 : decode cX9_poll 116 = .ok (.iconst 1, 1) := by decide +kernel
theorem dX9_poll_117 : decode cX9_poll 117 = .ok (.goto 4, 3) := by decide +kernel
theorem dX9_poll_120 : decode cX9_poll 120 = .ok (.iconst 0, 1) := by decide +kernel
theorem dX9_poll_121 : decode cX9_poll 121 = .ok (.istore 5, 2) := by decide +kernel
theorem dX9_poll_123 : decode cX9_poll 123 = .ok (.iload 5, 2) := by decide +kernel
theorem dX9_poll_125 : decode cX9_poll 125 = .ok (.ifCond .eq 7, 3) := by decide +kernel
theorem dX9_poll_128 : decode cX9_poll 128 = .ok (.iload_n 2, 1) := by decide +kernel
theorem dX9_poll_129 : decode cX9_poll 129 = .ok (.goto 4, 3) := by decide +kernel
theorem dX9_poll_132 : decode cX9_poll 132 = .ok (.iload_n 1, 1) := by decide +kernel
theorem dX9_poll_133 : decode cX9_poll 133 = .ok (.istore_n 1, 1) := by decide +kernel
theorem dX9_poll_134 : decode cX9_poll 134 = .ok (.iinc 2 1, 3) := by decide +kernel
theorem dX9_poll_137 : decode cX9_poll 137 = .ok (.goto (-128), 3) := by decide +kernel
theorem dX9_poll_140 : decode cX9_poll 140 = .ok (.iload_n 1, 1) := by decide +kernel
theorem dX9_poll_141 : decode cX9_poll 141 = .ok (.iconst (-1), 1) := by decide +kernel
theorem dX9_poll_142 : decode cX9_poll 142 = .ok (.if_icmp .ne 5, 3) := by decide +kernel
theorem dX9_poll_145 : decode cX9_poll 145 = .ok (.iconst (-1), 1) := by decide +kernel
theorem dX9_poll_146 : decode cX9_poll 146 = .ok (.ireturn, 1) := by decide +kernel
theorem dX9_poll_147 : decode cX9_poll 147 = .ok (.aload_n 0, 1) := by decide +kernel
theorem dX9_poll_148 : decode cX9_poll 148 = .ok (.dup, 1) := by decide +kernel
theorem dX9_poll_149 : decode cX9_poll 149 = .ok (.getfield 279, 3) := by decide +kernel
theorem dX9_poll_152 : decode cX9_poll 152 = .ok (.iconst 1, 1) := by decide +kernel
theorem dX9_poll_153 : decode cX9_poll 153 = .ok (.iadd, 1) := by decide +kernel
theorem dX9_poll_154 : decode cX9_poll 154 = .ok (.putfield 279, 3) := by decide +kernel
theorem dX9_poll_157 : decode cX9_poll 157 = .ok (.aload_n 0, 1) := by decide +kernel
theorem dX9_poll_158 : decode cX9_poll 158 = .ok (.getfield 69, 3) := by decide +kernel
theorem dX9_poll_161 : decode cX9_poll 161 = .ok (.aload_n 0, 1) := by decide +kernel
theorem dX9_poll_162 : decode cX9_poll 162 = .ok (.getfield 23, 3) := by decide +kernel
theorem dX9_poll_165 : decode cX9_poll 165 = .ok (.aload_n 0, 1) := by decide +kernel
theorem dX9_poll_166 : decode cX9_poll 166 = .ok (.getfield 51, 3) := by decide +kernel
theorem dX9_poll_169 : decode cX9_poll 169 = .ok (.iload_n 1, 1) := by decide +kernel
theorem dX9_poll_170 : decode cX9_poll 170 = .ok (.iaload, 1) := by decide +kernel
theorem dX9_poll_171 : decode cX9_poll 171 = .ok (.iaload, 1) := by decide +kernel
theorem dX9_poll_172 : decode cX9_poll 172 = .ok (.aload_n 0, 1) := by decide +kernel
theorem dX9_poll_173 : decode cX9_poll 173 = .ok (.getfield 279, 3) := by decide +kernel
theorem dX9_poll_176 : decode cX9_poll 176 = .ok (.iastore, 1) := by decide +kernel
theorem dX9_poll_177 : decode cX9_poll 177 = .ok (.aload_n 0, 1) := by decide +kernel
theorem dX9_poll_178 : decode cX9_poll 178 = .ok (.dup, 1) := by decide +kernel
theorem dX9_poll_179 : decode cX9_poll 179 = .ok (.getfield 282, 3) := by decide +kernel
theorem dX9_poll_182 : decode cX9_poll 182 = .ok (.iconst 1, 1) := by decide +kernel
theorem dX9_poll_183 : decode cX9_poll 183 = .ok (.iadd, 1) := by decide +kernel
theorem dX9_poll_184 : decode cX9_poll 184 = .ok (.putfield 282, 3) := by decide +kernel
theorem dX9_poll_187 : decode cX9_poll 187 = .ok (.aload_n 0, 1) := by decide +kernel
theorem dX9_poll_188 : decode cX9_poll 188 = .ok (.getfield 57, 3) := by decide +kernel
theorem dX9_poll_191 : decode cX9_poll 191 = .ok (.iload_n 1, 1) := by decide +kernel
theorem dX9_poll_192 : decode cX9_poll 192 = .ok (.iconst 1, 1) := by decide +kernel
theorem dX9_poll_193 : decode cX9_poll 193 = .ok (.iastore, 1) := by decide +kernel
theorem dX9_poll_194 : decode cX9_poll 194 = .ok (.aload_n 0, 1) := by decide +kernel
theorem dX9_poll_195 : decode cX9_poll 195 = .ok (.getfield 63, 3) := by decide +kernel
theorem dX9_poll_198 : decode cX9_poll 198 = .ok (.iload_n 1, 1) := by decide +kernel
theorem dX9_poll_199 : decode cX9_poll 199 = .ok (.aload_n 0, 1) := by decide +kernel
theorem dX9_poll_200 : decode cX9_poll 200 = .ok (.getfield 282, 3) := by decide +kernel
theorem dX9_poll_203 : decode cX9_poll 203 = .ok (.iastore, 1) := by decide +kernel
theorem dX9_poll_204 : decode cX9_poll 204 = .ok (.aload_n 0, 1) := by decide +kernel
theorem dX9_poll_205 : decode cX9_poll 205 = .ok (.getfield 66, 3) := by decide +kernel
theorem dX9_poll_208 : decode cX9_poll 208 = .ok (.iload_n 1, 1) := by decide +kernel
theorem dX9_poll_209 : decode cX9_poll 209 = .ok (.aload_n 0, 1) := by decide +kernel
theorem dX9_poll_210 : decode cX9_poll 210 = .ok (.getfield 197, 3) := by decide +kernel
theorem dX9_poll_213 : decode cX9_poll 213 = .ok (.bipush 6, 2) := by decide +kernel
theorem dX9_poll_215 : decode cX9_poll 215 = .ok (.iadd, 1) := by decide +kernel
theorem dX9_poll_216 : decode cX9_poll 216 = .ok (.iastore, 1) := by decide +kernel
theorem dX9_poll_217 : decode cX9_poll 217 = .ok (.aload_n 0, 1) := by decide +kernel
theorem dX9_poll_218 : decode cX9_poll 218 = .ok (.getfield 282, 3) := by decide +kernel
theorem dX9_poll_221 : decode cX9_poll 221 = .ok (.ireturn, 1) := by decide +kernel
theorem dX9_complete_0 : decode cX9_complete 0 = .ok (.aload_n 0, 1) := by decide +kernel
theorem dX9_complete_1 : decode cX9_complete 1 = .ok (.iload_n 2, 1) := by decide +kernel
theorem dX9_complete_2 : decode cX9_complete 2 = .ok (.sipush (-999), 3) := by decide +kernel
theorem dX9_complete_5 : decode cX9_complete 5 = .ok (.sipush 999, 3) := by decide +kernel
theorem dX9_complete_8 : decode cX9_complete 8 = .ok (.invokestatic 96, 3) := by decide +kernel
theorem dX9_complete_11 : decode cX9_complete 11 = .ok (.invokevirtual 269, 3) := by decide +kernel
theorem dX9_complete_14 : decode cX9_complete 14 = .ok (.ifCond .ne 5, 3) := by decide +kernel
theorem dX9_complete_17 : decode cX9_complete 17 = .ok (.iconst 0, 1) := by decide +kernel
theorem dX9_complete_18 : decode cX9_complete 18 = .ok (.ireturn, 1) := by decide +kernel
theorem dX9_complete_19 : decode cX9_complete 19 = .ok (.aload_n 0, 1) := by decide +kernel
theorem dX9_complete_20 : decode cX9_complete 20 = .ok (.iload_n 1, 1) := by decide +kernel
theorem dX9_complete_21 : decode cX9_complete 21 = .ok (.invokevirtual 285, 3) := by decide +kernel
theorem dX9_complete_24 : decode cX9_complete 24 = .ok (.istore_n 3, 1) := by decide +kernel
theorem dX9_complete_25 : decode cX9_complete 25 = .ok (.iload_n 3, 1) := by decide +kernel
theorem dX9_complete_26 : decode cX9_complete 26 = .ok (.iconst (-1), 1) := by decide +kernel
theorem dX9_complete_27 : decode cX9_complete 27 = .ok (.if_icmp .eq 11, 3) := by decide +kernel
theorem dX9_complete_30 : decode cX9_complete 30 = .ok (.aload_n 0, 1) := by decide +kernel
theorem dX9_complete_31 : decode cX9_complete 31 = .ok (.iload_n 3, 1) := by decide +kernel
theorem dX9_complete_32 : decode cX9_complete 32 = .ok (.iconst 2, 1) := by decide +kernel
theorem dX9_complete_33 : decode cX9_complete 33 = .ok (.iload_n 2, 1) := by decide +kernel
theorem dX9_complete_34 : decode cX9_complete 34 = .ok (.i2l, 1) := by decide +kernel
theorem dX9_complete_35 : decode cX9_complete 35 = .ok (.invokevirtual 288, 3) := by decide +kernel
theorem dX9_complete_38 : decode cX9_complete 38 = .ok (.iload_n 3, 1) := by decide +kernel
theorem dX9_complete_39 : decode cX9_complete 39 = .ok (.iconst (-1), 1) := by decide +kernel
theorem dX9_complete_40 : decode cX9_complete 40 = .ok (.if_icmp .eq 7, 3) := by decide +kernel
theorem dX9_complete_43 : decode cX9_complete 43 = .ok (.iconst 1, 1) := by decide +kernel
theorem dX9_complete_44 : decode cX9_complete 44 = .ok (.goto 4, 3) := by decide +kernel
theorem dX9_complete_47 : decode cX9_complete 47 = .ok (.iconst 0, 1) := by decide +kernel
theorem dX9_complete_48 : decode cX9_complete 48 = .ok (.ireturn, 1) := by decide +kernel
theorem dX9_taskOf_0 : decode cX9_taskOf 0 = .ok (.iconst 0, 1) := by decide +kernel
theorem dX9_taskOf_1 : decode cX9_taskOf 1 = .ok (.istore_n 2, 1) := by decide +kernel
theorem dX9_taskOf_2 : decode cX9_taskOf 2 = .ok (.iload_n 2, 1) := by decide +kernel
theorem dX9_taskOf_3 : decode cX9_taskOf 3 = .ok (.aload_n 0, 1) := by decide +kernel
theorem dX9_taskOf_4 : decode cX9_taskOf 4 = .ok (.getfield 100, 3) := by decide +kernel
theorem dX9_taskOf_7 : decode cX9_taskOf 7 = .ok (.if_icmp .ge 48, 3) := by decide +kernel
theorem dX9_taskOf_10 : decode cX9_taskOf 10 = .ok (.aload_n 0, 1) := by decide +kernel
theorem dX9_taskOf_11 : decode cX9_taskOf 11 = .ok (.getfield 57, 3) := by decide +kernel
theorem dX9_taskOf_14 : decode cX9_taskOf 14 = .ok (.iload_n 2, 1) := by decide +kernel
theorem dX9_taskOf_15 : decode cX9_taskOf 15 = .ok (.iaload, 1) := by decide +kernel
theorem dX9_taskOf_16 : decode cX9_taskOf 16 = .ok (.iconst 1, 1) := by decide +kernel
theorem dX9_taskOf_17 : decode cX9_taskOf 17 = .ok (.if_icmp .ne 32, 3) := by decide +kernel
theorem dX9_taskOf_20 : decode cX9_taskOf 20 = .ok (.aload_n 0, 1) := by decide +kernel
theorem dX9_taskOf_21 : decode cX9_taskOf 21 = .ok (.getfield 63, 3) := by decide +kernel
theorem dX9_taskOf_24 : decode cX9_taskOf 24 = .ok (.iload_n 2, 1) := by decide +kernel
theorem dX9_taskOf_25 : decode cX9_taskOf 25 = .ok (.iaload, 1) := by decide +kernel
theorem dX9_taskOf_26 : decode cX9_taskOf 26 = .ok (.iload_n 1, 1) := by decide +kernel
theorem dX9_taskOf_27 : decode cX9_taskOf 27 = .ok (.if_icmp .ne 22, 3) := by decide +kernel
theorem dX9_taskOf_30 : decode cX9_taskOf 30 = .ok (.aload_n 0, 1) := by decide +kernel
theorem dX9_taskOf_31 : decode cX9_taskOf 31 = .ok (.aload_n 0, 1) := by decide +kernel
theorem dX9_taskOf_32 : decode cX9_taskOf 32 = .ok (.getfield 51, 3) := by decide +kernel
theorem dX9_taskOf_35 : decode cX9_taskOf 35 = .ok (.iload_n 2, 1) := by decide +kernel
theorem dX9_taskOf_36 : decode cX9_taskOf 36 = .ok (.iaload, 1) := by decide +kernel
theorem dX9_taskOf_37 : decode cX9_taskOf 37 = .ok (.invokevirtual 235, 3) := by decide +kernel
theorem dX9_taskOf_40 : decode cX9_taskOf 40 = .ok (.ifCond .eq 7, 3) := by decide +kernel
theorem dX9_taskOf_43 : decode cX9_taskOf 43 = .ok (.iload_n 2, 1) := by decide +kernel
theorem dX9_taskOf_44 : decode cX9_taskOf 44 = .ok (.goto 4, 3) := by decide +kernel
theorem dX9_taskOf_47 : decode cX9_taskOf 47 = .ok (.iconst (-1), 1) := by decide +kernel
theorem dX9_taskOf_48 : decode cX9_taskOf 48 = .ok (.ireturn, 1) := by decide +kernel
theorem dX9_taskOf_49 : decode cX9_taskOf 49 = .ok (.iinc 2 1, 3) := by decide +kernel
theorem dX9_taskOf_52 : decode cX9_taskOf 52 = .ok (.goto (-50), 3) := by decide +kernel
theorem dX9_taskOf_55 : decode cX9_taskOf 55 = .ok (.iconst (-1), 1) := by decide +kernel
theorem dX9_taskOf_56 : decode cX9_taskOf 56 = .ok (.ireturn, 1) := by decide +kernel
theorem dX9_gets_0 : decode cX9_gets 0 = .ok (.aload_n 0, 1) := by decide +kernel
theorem dX9_gets_1 : decode cX9_gets 1 = .ok (.iload_n 1, 1) := by decide +kernel
theorem dX9_gets_2 : decode cX9_gets 2 = .ok (.invokevirtual 223, 3) := by decide +kernel
theorem dX9_gets_5 : decode cX9_gets 5 = .ok (.aload_n 0, 1) := by decide +kernel
theorem dX9_gets_6 : decode cX9_gets 6 = .ok (.aload_n 0, 1) := by decide +kernel
theorem dX9_gets_7 : decode cX9_gets 7 = .ok (.getfield 51, 3) := by decide +kernel
theorem dX9_gets_10 : decode cX9_gets 10 = .ok (.iload_n 1, 1) := by decide +kernel
theorem dX9_gets_11 : decode cX9_gets 11 = .ok (.iaload, 1) := by decide +kernel
theorem dX9_gets_12 : decode cX9_gets 12 = .ok (.iload_n 2, 1) := by decide +kernel
theorem dX9_gets_13 : decode cX9_gets 13 = .ok (.lload_n 3, 1) := by decide +kernel
theorem dX9_gets_14 : decode cX9_gets 14 = .ok (.invokevirtual 143, 3) := by decide +kernel
theorem dX9_gets_17 : decode cX9_gets 17 = .ok (.aload_n 0, 1) := by decide +kernel
theorem dX9_gets_18 : decode cX9_gets 18 = .ok (.aload_n 0, 1) := by decide +kernel
theorem dX9_gets_19 : decode cX9_gets 19 = .ok (.getfield 51, 3) := by decide +kernel
theorem dX9_gets_22 : decode cX9_gets 22 = .ok (.iload_n 1, 1) := by decide +kernel
theorem dX9_gets_23 : decode cX9_gets 23 = .ok (.iaload, 1) := by decide +kernel
theorem dX9_gets_24 : decode cX9_gets 24 = .ok (.invokevirtual 253, 3) := by decide +kernel
theorem dX9_gets_27 : decode cX9_gets 27 = .ok (.return_, 1) := by decide +kernel
theorem dX9_fail_0 : decode cX9_fail 0 = .ok (.aload_n 0, 1) := by decide +kernel
theorem dX9_fail_1 : decode cX9_fail 1 = .ok (.iconst 0, 1) := by decide +kernel
theorem dX9_fail_2 : decode cX9_fail 2 = .ok (.putfield 90, 3) := by decide +kernel
theorem dX9_fail_5 : decode cX9_fail 5 = .ok (.aload_n 0, 1) := by decide +kernel
theorem dX9_fail_6 : decode cX9_fail 6 = .ok (.iload_n 1, 1) := by decide +kernel
theorem dX9_fail_7 : decode cX9_fail 7 = .ok (.invokevirtual 285, 3) := by decide +kernel
theorem dX9_fail_10 : decode cX9_fail 10 = .ok (.istore_n 2, 1) := by decide +kernel
theorem dX9_fail_11 : decode cX9_fail 11 = .ok (.iload_n 2, 1) := by decide +kernel
theorem dX9_fail_12 : decode cX9_fail 12 = .ok (.iconst (-1), 1) := by decide +kernel
theorem dX9_fail_13 : decode cX9_fail 13 = .ok (.if_icmp .eq 8, 3) := by decide +kernel
theorem dX9_fail_16 : decode cX9_fail 16 = .ok (.aload_n 0, 1) := by decide +kernel
theorem dX9_fail_17 : decode cX9_fail 17 = .ok (.iload_n 2, 1) := by decide +kernel
theorem dX9_fail_18 : decode cX9_fail 18 = .ok (.invokevirtual 291, 3) := by decide +kernel
theorem dX9_fail_21 : decode cX9_fail 21 = .ok (.iload_n 2, 1) := by decide +kernel
theorem dX9_fail_22 : decode cX9_fail 22 = .ok (.iconst (-1), 1) := by decide +kernel
theorem dX9_fail_23 : decode cX9_fail 23 = .ok (.if_icmp .eq 7, 3) := by decide +kernel
theorem dX9_fail_26 : decode cX9_fail 26 = .ok (.iconst 1, 1) := by decide +kernel
theorem dX9_fail_27 : decode cX9_fail 27 = .ok (.goto 4, 3) := by decide +kernel
theorem dX9_fail_30 : decode cX9_fail 30 = .ok (.iconst 0, 1) := by decide +kernel
theorem dX9_fail_31 : decode cX9_fail 31 = .ok (.ireturn, 1) := by decide +kernel
theorem dX9_failed_0 : decode cX9_failed 0 = .ok (.aload_n 0, 1) := by decide +kernel
theorem dX9_failed_1 : decode cX9_failed 1 = .ok (.getfield 60, 3) := by decide +kernel
theorem dX9_failed_4 : decode cX9_failed 4 = .ok (.iload_n 1, 1) := by decide +kernel
theorem dX9_failed_5 : decode cX9_failed 5 = .ok (.dup2, 1) := by decide +kernel
theorem dX9_failed_6 : decode cX9_failed 6 = .ok (.iaload, 1) := by decide +kernel
theorem dX9_failed_7 : decode cX9_failed 7 = .ok (.iconst 1, 1) := by decide +kernel
theorem dX9_failed_8 : decode cX9_failed 8 = .ok (.iadd, 1) := by decide +kernel
theorem dX9_failed_9 : decode cX9_failed 9 = .ok (.iastore, 1) := by decide +kernel
theorem dX9_failed_10 : decode cX9_failed 10 = .ok (.aload_n 0, 1) := by decide +kernel
theorem dX9_failed_11 : decode cX9_failed 11 = .ok (.getfield 60, 3) := by decide +kernel
theorem dX9_failed_14 : decode cX9_failed 14 = .ok (.iload_n 1, 1) := by decide +kernel
theorem dX9_failed_15 : decode cX9_failed 15 = .ok (.iaload, 1) := by decide +kernel
theorem dX9_failed_16 : decode cX9_failed 16 = .ok (.iconst 3, 1) := by decide +kernel
theorem dX9_failed_17 : decode cX9_failed 17 = .ok (.if_icmp .ne 13, 3) := by decide +kernel
theorem dX9_failed_20 : decode cX9_failed 20 = .ok (.aload_n 0, 1) := by decide +kernel
theorem dX9_failed_21 : decode cX9_failed 21 = .ok (.iload_n 1, 1) := by decide +kernel
theorem dX9_failed_22 : decode cX9_failed 22 = .ok (.iconst 3, 1) := by decide +kernel
theorem dX9_failed_23 : decode cX9_failed 23 = .ok (.lconst 0, 1) := by decide +kernel
theorem dX9_failed_24 : decode cX9_failed 24 = .ok (.invokevirtual 288, 3) := by decide +kernel
theorem dX9_failed_27 : decode cX9_failed 27 = .ok (.goto 29, 3) := by decide +kernel
theorem dX9_failed_30 : decode cX9_failed 30 = .ok (.aload_n 0, 1) := by decide +kernel
theorem dX9_failed_31 : decode cX9_failed 31 = .ok (.getfield 57, 3) := by decide +kernel
theorem dX9_failed_34 : decode cX9_failed 34 = .ok (.iload_n 1, 1) := by decide +kernel
theorem dX9_failed_35 : decode cX9_failed 35 = .ok (.iconst 2, 1) := by decide +kernel
theorem dX9_failed_36 : decode cX9_failed 36 = .ok (.iastore, 1) := by decide +kernel
theorem dX9_failed_37 : decode cX9_failed 37 = .ok (.aload_n 0, 1) := by decide +kernel
theorem dX9_failed_38 : decode cX9_failed 38 = .ok (.getfield 66, 3) := by decide +kernel
theorem dX9_failed_41 : decode cX9_failed 41 = .ok (.iload_n 1, 1) := by decide +kernel
theorem dX9_failed_42 : decode cX9_failed 42 = .ok (.aload_n 0, 1) := by decide +kernel
theorem dX9_failed_43 : decode cX9_failed 43 = .ok (.getfield 197, 3) := by decide +kernel
theorem dX9_failed_46 : decode cX9_failed 46 = .ok (.iconst 1, 1) := by decide +kernel
theorem dX9_failed_47 : decode cX9_failed 47 = .ok (.aload_n 0, 1) := by decide +kernel
theorem dX9_failed_48 : decode cX9_failed 48 = .ok (.getfield 60, 3) := by decide +kernel
theorem dX9_failed_51 : decode cX9_failed 51 = .ok (.iload_n 1, 1) := by decide +kernel
theorem dX9_failed_52 : decode cX9_failed 52 = .ok (.iaload, 1) := by decide +kernel
theorem dX9_failed_53 : decode cX9_failed 53 = .ok (.ishl, 1) := by decide +kernel
theorem dX9_failed_54 : decode cX9_failed 54 = .ok (.iadd, 1) := by decide +kernel
theorem dX9_failed_55 : decode cX9_failed 55 = .ok (.iastore, 1) := by decide +kernel
theorem dX9_failed_56 : decode cX9_failed 56 = .ok (.return_, 1) := by decide +kernel
theorem dX9_beat_0 : decode cX9_beat 0 = .ok (.aload_n 0, 1) := by decide +kernel
theorem dX9_beat_1 : decode cX9_beat 1 = .ok (.iconst 0, 1) := by decide +kernel
theorem dX9_beat_2 : decode cX9_beat 2 = .ok (.putfield 90, 3) := by decide +kernel
theorem dX9_beat_5 : decode cX9_beat 5 = .ok (.aload_n 0, 1) := by decide +kernel
theorem dX9_beat_6 : decode cX9_beat 6 = .ok (.iload_n 1, 1) := by decide +kernel
theorem dX9_beat_7 : decode cX9_beat 7 = .ok (.invokevirtual 285, 3) := by decide +kernel
theorem dX9_beat_10 : decode cX9_beat 10 = .ok (.istore_n 2, 1) := by decide +kernel
theorem dX9_beat_11 : decode cX9_beat 11 = .ok (.iload_n 2, 1) := by decide +kernel
theorem dX9_beat_12 : decode cX9_beat 12 = .ok (.iconst (-1), 1) := by decide +kernel
theorem dX9_beat_13 : decode cX9_beat 13 = .ok (.if_icmp .eq 16, 3) := by decide +kernel
theorem dX9_beat_16 : decode cX9_beat 16 = .ok (.aload_n 0, 1) := by decide +kernel
theorem dX9_beat_17 : decode cX9_beat 17 = .ok (.getfield 66, 3) := by decide +kernel
theorem dX9_beat_20 : decode cX9_beat 20 = .ok (.iload_n 2, 1) := by decide +kernel
theorem dX9_beat_21 : decode cX9_beat 21 = .ok (.aload_n 0, 1) := by decide +kernel
theorem dX9_beat_22 : decode cX9_beat 22 = .ok (.getfield 197, 3) := by decide +kernel
theorem dX9_beat_25 : decode cX9_beat 25 = .ok (.bipush 6, 2) := by decide +kernel
theorem dX9_beat_27 : decode cX9_beat 27 = .ok (.iadd, 1) := by decide +kernel
theorem dX9_beat_28 : decode cX9_beat 28 = .ok (.iastore, 1) := by decide +kernel
theorem dX9_beat_29 : decode cX9_beat 29 = .ok (.iload_n 2, 1) := by decide +kernel
theorem dX9_beat_30 : decode cX9_beat 30 = .ok (.iconst (-1), 1) := by decide +kernel
theorem dX9_beat_31 : decode cX9_beat 31 = .ok (.if_icmp .eq 7, 3) := by decide +kernel
theorem dX9_beat_34 : decode cX9_beat 34 = .ok (.iconst 1, 1) := by decide +kernel
theorem dX9_beat_35 : decode cX9_beat 35 = .ok (.goto 4, 3) := by decide +kernel
theorem dX9_beat_38 : decode cX9_beat 38 = .ok (.iconst 0, 1) := by decide +kernel
theorem dX9_beat_39 : decode cX9_beat 39 = .ok (.ireturn, 1) := by decide +kernel
theorem dX9_tick_0 : decode cX9_tick 0 = .ok (.aload_n 0, 1) := by decide +kernel
theorem dX9_tick_1 : decode cX9_tick 1 = .ok (.iload_n 1, 1) := by decide +kernel
theorem dX9_tick_2 : decode cX9_tick 2 = .ok (.iconst 1, 1) := by decide +kernel
theorem dX9_tick_3 : decode cX9_tick 3 = .ok (.bipush 50, 2) := by decide +kernel
theorem dX9_tick_5 : decode cX9_tick 5 = .ok (.invokestatic 96, 3) := by decide +kernel
theorem dX9_tick_8 : decode cX9_tick 8 = .ok (.invokevirtual 269, 3) := by decide +kernel
theorem dX9_tick_11 : decode cX9_tick 11 = .ok (.ifCond .ne 5, 3) := by decide +kernel
theorem dX9_tick_14 : decode cX9_tick 14 = .ok (.iconst 0, 1) := by decide +kernel
theorem dX9_tick_15 : decode cX9_tick 15 = .ok (.ireturn, 1) := by decide +kernel
theorem dX9_tick_16 : decode cX9_tick 16 = .ok (.iconst 0, 1) := by decide +kernel
theorem dX9_tick_17 : decode cX9_tick 17 = .ok (.istore_n 2, 1) := by decide +kernel
theorem dX9_tick_18 : decode cX9_tick 18 = .ok (.iload_n 2, 1) := by decide +kernel
theorem dX9_tick_19 : decode cX9_tick 19 = .ok (.iload_n 1, 1) := by decide +kernel
theorem dX9_tick_20 : decode cX9_tick 20 = .ok (.if_icmp .ge 13, 3) := by decide +kernel
theorem dX9_tick_23 : decode cX9_tick 23 = .ok (.aload_n 0, 1) := by decide +kernel
theorem dX9_tick_24 : decode cX9_tick 24 = .ok (.invokevirtual 294, 3) := by decide +kernel
theorem dX9_tick_27 : decode cX9_tick 27 = .ok (.iinc 2 1, 3) := by decide +kernel
theorem dX9_tick_30 : decode cX9_tick 30 = .ok (.goto (-12), 3) := by decide +kernel
theorem dX9_tick_33 : decode cX9_tick 33 = .ok (.aload_n 0, 1) := by decide +kernel
theorem dX9_tick_34 : decode cX9_tick 34 = .ok (.getfield 197, 3) := by decide +kernel
theorem dX9_tick_37 : decode cX9_tick 37 = .ok (.ireturn, 1) := by decide +kernel
theorem dX9_ticks_0 : decode cX9_ticks 0 = .ok (.aload_n 0, 1) := by decide +kernel
theorem dX9_ticks_1 : decode cX9_ticks 1 = .ok (.dup, 1) := by decide +kernel
theorem dX9_ticks_2 : decode cX9_ticks 2 = .ok (.getfield 197, 3) := by decide +kernel
theorem dX9_ticks_5 : decode cX9_ticks 5 = .ok (.iconst 1, 1) := by decide +kernel
theorem dX9_ticks_6 : decode cX9_ticks 6 = .ok (.iadd, 1) := by decide +kernel
theorem dX9_ticks_7 : decode cX9_ticks 7 = .ok (.putfield 197, 3) := by decide +kernel
theorem dX9_ticks_10 : decode cX9_ticks 10 = .ok (.iconst 0, 1) := by decide +kernel
theorem dX9_ticks_11 : decode cX9_ticks 11 = .ok (.istore_n 1, 1) := by decide +kernel
theorem dX9_ticks_12 : decode cX9_ticks 12 = .ok (.iload_n 1, 1) := by decide +kernel
theorem dX9_ticks_13 : decode cX9_ticks 13 = .ok (.aload_n 0, 1) := by decide +kernel
theorem dX9_ticks_14 : decode cX9_ticks 14 = .ok (.getfield 100, 3) := by decide +kernel
theorem dX9_ticks_17 : decode cX9_ticks 17 = .ok (.if_icmp .ge 87, 3) := by decide +kernel
theorem dX9_ticks_20 : decode cX9_ticks 20 = .ok (.aload_n 0, 1) := by decide +kernel
theorem dX9_ticks_21 : decode cX9_ticks 21 = .ok (.getfield 57, 3) := by decide +kernel
theorem dX9_ticks_24 : decode cX9_ticks 24 = .ok (.iload_n 1, 1) := by decide +kernel
theorem dX9_ticks_25 : decode cX9_ticks 25 = .ok (.iaload, 1) := by decide +kernel
theorem dX9_ticks_26 : decode cX9_ticks 26 = .ok (.iconst 1, 1) := by decide +kernel
theorem dX9_ticks_27 : decode cX9_ticks 27 = .ok (.if_icmp .eq 13, 3) := by decide +kernel
theorem dX9_ticks_30 : decode cX9_ticks 30 = .ok (.aload_n 0, 1) := by decide +kernel
theorem dX9_ticks_31 : decode cX9_ticks 31 = .ok (.getfield 57, 3) := by decide +kernel
theorem dX9_ticks_34 : decode cX9_ticks 34 = .ok (.iload_n 1, 1) := by decide +kernel
theorem dX9_ticks_35 : decode cX9_ticks 35 = .ok (.iaload, 1) := by decide +kernel
theorem dX9_ticks_36 : decode cX9_ticks 36 = .ok (.iconst 2, 1) := by decide +kernel
theorem dX9_ticks_37 : decode cX9_ticks 37 = .ok (.if_icmp .ne 61, 3) := by decide +kernel
theorem dX9_ticks_40 : decode cX9_ticks 40 = .ok (.aload_n 0, 1) := by decide +kernel
theorem dX9_ticks_41 : decode cX9_ticks 41 = .ok (.getfield 66, 3) := by decide +kernel
theorem dX9_ticks_44 : decode cX9_ticks 44 = .ok (.iload_n 1, 1) := by decide +kernel
theorem dX9_ticks_45 : decode cX9_ticks 45 = .ok (.iaload, 1) := by decide +kernel
theorem dX9_ticks_46 : decode cX9_ticks 46 = .ok (.aload_n 0, 1) := by decide +kernel
theorem dX9_ticks_47 : decode cX9_ticks 47 = .ok (.getfield 197, 3) := by decide +kernel
theorem dX9_ticks_50 : decode cX9_ticks 50 = .ok (.if_icmp .gt 48, 3) := by decide +kernel
theorem dX9_ticks_53 : decode cX9_ticks 53 = .ok (.aload_n 0, 1) := by decide +kernel
theorem dX9_ticks_54 : decode cX9_ticks 54 = .ok (.aload_n 0, 1) := by decide +kernel
theorem dX9_ticks_55 : decode cX9_ticks 55 = .ok (.getfield 51, 3) := by decide +kernel
theorem dX9_ticks_58 : decode cX9_ticks 58 = .ok (.iload_n 1, 1) := by decide +kernel
theorem dX9_ticks_59 : decode cX9_ticks 59 = .ok (.iaload, 1) := by decide +kernel
theorem dX9_ticks_60 : decode cX9_ticks 60 = .ok (.invokevirtual 235, 3) := by decide +kernel
theorem dX9_ticks_63 : decode cX9_ticks 63 = .ok (.ifCond .eq 35, 3) := by decide +kernel
theorem dX9_ticks_66 : decode cX9_ticks 66 = .ok (.aload_n 0, 1) := by decide +kernel
theorem dX9_ticks_67 : decode cX9_ticks 67 = .ok (.getfield 57, 3) := by decide +kernel
theorem dX9_ticks_70 : decode cX9_ticks 70 = .ok (.iload_n 1, 1) := by decide +kernel
theorem dX9_ticks_71 : decode cX9_ticks 71 = .ok (.iaload, 1) := by decide +kernel
theorem dX9_ticks_72 : decode cX9_ticks 72 = .ok (.iconst 1, 1) := by decide +kernel
theorem dX9_ticks_73 : decode cX9_ticks 73 = .ok (.if_icmp .ne 11, 3) := by decide +kernel
theorem dX9_ticks_76 : decode cX9_ticks 76 = .ok (.aload_n 0, 1) := by decide +kernel
theorem dX9_ticks_77 : decode cX9_ticks 77 = .ok (.iload_n 1, 1) := by decide +kernel
theorem dX9_ticks_78 : decode cX9_ticks 78 = .ok (.invokevirtual 291, 3) := by decide +kernel
theorem dX9_ticks_81 : decode cX9_ticks 81 = .ok (.goto 17, 3) := by decide +kernel
theorem dX9_ticks_84 : decode cX9_ticks 84 = .ok (.aload_n 0, 1) := by decide +kernel
theorem dX9_ticks_85 : decode cX9_ticks 85 = .ok (.getfield 57, 3) := by decide +kernel
theorem dX9_ticks_88 : decode cX9_ticks 88 = .ok (.iload_n 1, 1) := by decide +kernel
theorem dX9_ticks_89 : decode cX9_ticks 89 = .ok (.iconst 0, 1) := by decide +kernel
theorem dX9_ticks_90 : decode cX9_ticks 90 = .ok (.iastore, 1) := by decide +kernel
theorem dX9_ticks_91 : decode cX9_ticks 91 = .ok (.aload_n 0, 1) := by decide +kernel
theorem dX9_ticks_92 : decode cX9_ticks 92 = .ok (.getfield 66, 3) := by decide +kernel
theorem dX9_ticks_95 : decode cX9_ticks 95 = .ok (.iload_n 1, 1) := by decide +kernel
theorem dX9_ticks_96 : decode cX9_ticks 96 = .ok (.iconst 0, 1) := by decide +kernel
theorem dX9_ticks_97 : decode cX9_ticks 97 = .ok (.iastore, 1) := by decide +kernel
theorem dX9_ticks_98 : decode cX9_ticks 98 = .ok (.iinc 1 1, 3) := by decide +kernel
theorem dX9_ticks_101 : decode cX9_ticks 101 = .ok (.goto (-89), 3) := by decide +kernel
theorem dX9_ticks_104 : decode cX9_ticks 104 = .ok (.iconst 0, 1) := by decide +kernel
theorem dX9_ticks_105 : decode cX9_ticks 105 = .ok (.istore_n 1, 1) := by decide +kernel
theorem dX9_ticks_106 : decode cX9_ticks 106 = .ok (.iload_n 1, 1) := by decide +kernel
theorem dX9_ticks_107 : decode cX9_ticks 107 = .ok (.aload_n 0, 1) := by decide +kernel
theorem dX9_ticks_108 : decode cX9_ticks 108 = .ok (.getfield 93, 3) := by decide +kernel
theorem dX9_ticks_111 : decode cX9_ticks 111 = .ok (.if_icmp .ge 65, 3) := by decide +kernel
theorem dX9_ticks_114 : decode cX9_ticks 114 = .ok (.aload_n 0, 1) := by decide +kernel
theorem dX9_ticks_115 : decode cX9_ticks 115 = .ok (.getfield 32, 3) := by decide +kernel
theorem dX9_ticks_118 : decode cX9_ticks 118 = .ok (.iload_n 1, 1) := by decide +kernel
theorem dX9_ticks_119 : decode cX9_ticks 119 = .ok (.iaload, 1) := by decide +kernel
theorem dX9_ticks_120 : decode cX9_ticks 120 = .ok (.ifCond .ne 50, 3) := by decide +kernel
theorem dX9_ticks_123 : decode cX9_ticks 123 = .ok (.aload_n 0, 1) := by decide +kernel
theorem dX9_ticks_124 : decode cX9_ticks 124 = .ok (.iload_n 1, 1) := by decide +kernel
theorem dX9_ticks_125 : decode cX9_ticks 125 = .ok (.invokevirtual 235, 3) := by decide +kernel
theorem dX9_ticks_128 : decode cX9_ticks 128 = .ok (.ifCond .eq 42, 3) := by decide +kernel
theorem dX9_ticks_131 : decode cX9_ticks 131 = .ok (.aload_n 0, 1) := by decide +kernel
theorem dX9_ticks_132 : decode cX9_ticks 132 = .ok (.getfield 116, 3) := by decide +kernel
theorem dX9_ticks_135 : decode cX9_ticks 135 = .ok (.iconst 2, 1) := by decide +kernel
theorem dX9_ticks_136 : decode cX9_ticks 136 = .ok (.if_icmp .eq 11, 3) := by decide +kernel
theorem dX9_ticks_139 : decode cX9_ticks 139 = .ok (.aload_n 0, 1) := by decide +kernel
theorem dX9_ticks_140 : decode cX9_ticks 140 = .ok (.getfield 116, 3) := by decide +kernel
theorem dX9_ticks_143 : decode cX9_ticks 143 = .ok (.iconst 4, 1) := by decide +kernel
theorem dX9_ticks_144 : decode cX9_ticks 144 = .ok (.if_icmp .ne 26, 3) := by decide +kernel
theorem dX9_ticks_147 : decode cX9_ticks 147 = .ok (.aload_n 0, 1) := by decide +kernel
theorem dX9_ticks_148 : decode cX9_ticks 148 = .ok (.getfield 204, 3) := by decide +kernel
theorem dX9_ticks_151 : decode cX9_ticks 151 = .ok (.aload_n 0, 1) := by decide +kernel
theorem dX9_ticks_152 : decode cX9_ticks 152 = .ok (.getfield 197, 3) := by decide +kernel
theorem dX9_ticks_155 : decode cX9_ticks 155 = .ok (.if_icmp .gt 15, 3) := by decide +kernel
theorem dX9_ticks_158 : decode cX9_ticks 158 = .ok (.aload_n 0, 1) := by decide +kernel
theorem dX9_ticks_159 : decode cX9_ticks 159 = .ok (.iload_n 1, 1) := by decide +kernel
theorem dX9_ticks_160 : decode cX9_ticks 160 = .ok (.iconst 5, 1) := by decide +kernel
theorem dX9_ticks_161 : decode cX9_ticks 161 = .ok (.lconst 0, 1) := by decide +kernel
theorem dX9_ticks_162 : decode cX9_ticks 162 = .ok (.invokevirtual 143, 3) := by decide +kernel
theorem dX9_ticks_165 : decode cX9_ticks 165 = .ok (.aload_n 0, 1) := by decide +kernel
theorem dX9_ticks_166 : decode cX9_ticks 166 = .ok (.iload_n 1, 1) := by decide +kernel
theorem dX9_ticks_167 : decode cX9_ticks 167 = .ok (.invokevirtual 253, 3) := by decide +kernel
theorem dX9_ticks_170 : decode cX9_ticks 170 = .ok (.iinc 1 1, 3) := by decide +kernel
theorem dX9_ticks_173 : decode cX9_ticks 173 = .ok (.goto (-67), 3) := by decide +kernel
theorem dX9_ticks_176 : decode cX9_ticks 176 = .ok (.return_, 1) := by decide +kernel
theorem dX9_workflows_0 : decode cX9_workflows 0 = .ok (.aload_n 0, 1) := by decide +kernel
theorem dX9_workflows_1 : decode cX9_workflows 1 = .ok (.iconst 0, 1) := by decide +kernel
theorem dX9_workflows_2 : decode cX9_workflows 2 = .ok (.putfield 90, 3) := by decide +kernel
theorem dX9_workflows_5 : decode cX9_workflows 5 = .ok (.aload_n 0, 1) := by decide +kernel
theorem dX9_workflows_6 : decode cX9_workflows 6 = .ok (.getfield 93, 3) := by decide +kernel
theorem dX9_workflows_9 : decode cX9_workflows 9 = .ok (.ireturn, 1) := by decide +kernel
theorem dX9_state_0 : decode cX9_state 0 = .ok (.aload_n 0, 1) := by decide +kernel
theorem dX9_state_1 : decode cX9_state 1 = .ok (.aload_n 0, 1) := by decide +kernel
theorem dX9_state_2 : decode cX9_state 2 = .ok (.iload_n 1, 1) := by decide +kernel
theorem dX9_state_3 : decode cX9_state 3 = .ok (.invokevirtual 262, 3) := by decide +kernel
theorem dX9_state_6 : decode cX9_state 6 = .ok (.invokevirtual 269, 3) := by decide +kernel
theorem dX9_state_9 : decode cX9_state 9 = .ok (.ifCond .ne 5, 3) := by decide +kernel
theorem dX9_state_12 : decode cX9_state 12 = .ok (.iconst 0, 1) := by decide +kernel
theorem dX9_state_13 : decode cX9_state 13 = .ok (.ireturn, 1) := by decide +kernel
theorem dX9_state_14 : decode cX9_state 14 = .ok (.aload_n 0, 1) := by decide +kernel
theorem dX9_state_15 : decode cX9_state 15 = .ok (.getfield 32, 3) := by decide +kernel
theorem dX9_state_18 : decode cX9_state 18 = .ok (.iload_n 1, 1) := by decide +kernel
theorem dX9_state_19 : decode cX9_state 19 = .ok (.iaload, 1) := by decide +kernel
theorem dX9_state_20 : decode cX9_state 20 = .ok (.ifCond .le 12, 3) := by decide +kernel
theorem dX9_state_23 : decode cX9_state 23 = .ok (.aload_n 0, 1) := by decide +kernel
theorem dX9_state_24 : decode cX9_state 24 = .ok (.getfield 32, 3) := by decide +kernel
theorem dX9_state_27 : decode cX9_state 27 = .ok (.iload_n 1, 1) := by decide +kernel
theorem dX9_state_28 : decode cX9_state 28 = .ok (.iaload, 1) := by decide +kernel
theorem dX9_state_29 : decode cX9_state 29 = .ok (.goto 16, 3) := by decide +kernel
theorem dX9_state_32 : decode cX9_state 32 = .ok (.aload_n 0, 1) := by decide +kernel
theorem dX9_state_33 : decode cX9_state 33 = .ok (.iload_n 1, 1) := by decide +kernel
theorem dX9_state_34 : decode cX9_state 34 = .ok (.invokevirtual 235, 3) := by decide +kernel
theorem dX9_state_37 : decode cX9_state 37 = .ok (.ifCond .eq 7, 3) := by decide +kernel
theorem dX9_state_40 : decode cX9_state 40 = .ok (.iconst 0, 1) := by decide +kernel
theorem dX9_state_41 : decode cX9_state 41 = .ok (.goto 4, 3) := by decide +kernel
theorem dX9_state_44 : decode cX9_state 44 = .ok (.iconst 5, 1) := by decide +kernel
theorem dX9_state_45 : decode cX9_state 45 = .ok (.ireturn, 1) := by decide +kernel
theorem dX9_about_0 : decode cX9_about 0 = .ok (.aload_n 0, 1) := by decide +kernel
theorem dX9_about_1 : decode cX9_about 1 = .ok (.iload_n 1, 1) := by decide +kernel
theorem dX9_about_2 : decode cX9_about 2 = .ok (.iload_n 2, 1) := by decide +kernel
theorem dX9_about_3 : decode cX9_about 3 = .ok (.invokevirtual 297, 3) := by decide +kernel
theorem dX9_about_6 : decode cX9_about 6 = .ok (.ireturn, 1) := by decide +kernel
theorem dX9_told_0 : decode cX9_told 0 = .ok (.aload_n 0, 1) := by decide +kernel
theorem dX9_told_1 : decode cX9_told 1 = .ok (.iload_n 1, 1) := by decide +kernel
theorem dX9_told_2 : decode cX9_told 2 = .ok (.invokevirtual 262, 3) := by decide +kernel
theorem dX9_told_5 : decode cX9_told 5 = .ok (.istore_n 3, 1) := by decide +kernel
theorem dX9_told_6 : decode cX9_told 6 = .ok (.iload_n 2, 1) := by decide +kernel
theorem dX9_told_7 : decode cX9_told 7 = .ok (.iconst 0, 1) := by decide +kernel
theorem dX9_told_8 : decode cX9_told 8 = .ok (.bipush 8, 2) := by decide +kernel
theorem dX9_told_10 : decode cX9_told 10 = .ok (.invokestatic 96, 3) := by decide +kernel
theorem dX9_told_13 : decode cX9_told 13 = .ok (.istore 4, 2) := by decide +kernel
theorem dX9_told_15 : decode cX9_told 15 = .ok (.aload_n 0, 1) := by decide +kernel
theorem dX9_told_16 : decode cX9_told 16 = .ok (.iload_n 3, 1) := by decide +kernel
theorem dX9_told_17 : decode cX9_told 17 = .ok (.iload 4, 2) := by decide +kernel
theorem dX9_told_19 : decode cX9_told 19 = .ok (.iload_n 3, 1) := by decide +kernel
theorem dX9_told_20 : decode cX9_told 20 = .ok (.ifCond .eq 20, 3) := by decide +kernel
theorem dX9_told_23 : decode cX9_told 23 = .ok (.iload 4, 2) := by decide +kernel
theorem dX9_told_25 : decode cX9_told 25 = .ok (.ifCond .eq 15, 3) := by decide +kernel
theorem dX9_told_28 : decode cX9_told 28 = .ok (.aload_n 0, 1) := by decide +kernel
theorem dX9_told_29 : decode cX9_told 29 = .ok (.iload_n 1, 1) := by decide +kernel
theorem dX9_told_30 : decode cX9_told 30 = .ok (.invokevirtual 235, 3) := by decide +kernel
theorem dX9_told_33 : decode cX9_told 33 = .ok (.ifCond .eq 7, 3) := by decide +kernel
theorem dX9_told_36 : decode cX9_told 36 = .ok (.iconst 1, 1) := by decide +kernel
theorem dX9_told_37 : decode cX9_told 37 = .ok (.goto 4, 3) := by decide +kernel
theorem dX9_told_40 : decode cX9_told 40 = .ok (.iconst 0, 1) := by decide +kernel
theorem dX9_told_41 : decode cX9_told 41 = .ok (.invokevirtual 259, 3) := by decide +kernel
theorem dX9_told_44 : decode cX9_told 44 = .ok (.ifCond .ne 5, 3) := by decide +kernel
theorem dX9_told_47 : decode cX9_told 47 = .ok (.iconst 0, 1) := by decide +kernel
theorem dX9_told_48 : decode cX9_told 48 = .ok (.ireturn, 1) := by decide +kernel
theorem dX9_told_49 : decode cX9_told 49 = .ok (.iload_n 2, 1) := by decide +kernel
theorem dX9_told_50 : decode cX9_told 50 = .ok (.tableswitch 144 0 7 #[46, 53, 58, 63, 68, 110, 115, 128], 46) := by decide +kernel
theorem dX9_told_96 : decode cX9_told 96 = .ok (.aload_n 0, 1) := by decide +kernel
theorem dX9_told_97 : decode cX9_told 97 = .ok (.getfield 23, 3) := by decide +kernel
theorem dX9_told_100 : decode cX9_told 100 = .ok (.iload_n 1, 1) := by decide +kernel
theorem dX9_told_101 : decode cX9_told 101 = .ok (.iaload, 1) := by decide +kernel
theorem dX9_told_102 : decode cX9_told 102 = .ok (.ireturn, 1) := by decide +kernel
theorem dX9_told_103 : decode cX9_told 103 = .ok (.aload_n 0, 1) := by decide +kernel
theorem dX9_told_104 : decode cX9_told 104 = .ok (.getfield 110, 3) := by decide +kernel
theorem dX9_told_107 : decode cX9_told 107 = .ok (.ireturn, 1) := by decide +kernel
theorem dX9_told_108 : decode cX9_told 108 = .ok (.aload_n 0, 1) := by decide +kernel
theorem dX9_told_109 : decode cX9_told 109 = .ok (.getfield 113, 3) := by decide +kernel
theorem dX9_told_112 : decode cX9_told 112 = .ok (.ireturn, 1) := by decide +kernel
theorem dX9_told_113 : decode cX9_told 113 = .ok (.aload_n 0, 1) := by decide +kernel
theorem dX9_told_114 : decode cX9_told 114 = .ok (.getfield 116, 3) := by decide +kernel
theorem dX9_told_117 : decode cX9_told 117 = .ok (.ireturn, 1) := by decide +kernel
theorem dX9_told_118 : decode cX9_told 118 = .ok (.aload_n 0, 1) := by decide +kernel
theorem dX9_told_119 : decode cX9_told 119 = .ok (.getfield 116, 3) := by decide +kernel
theorem dX9_told_122 : decode cX9_told 122 = .ok (.iconst 1, 1) := by decide +kernel
theorem dX9_told_123 : decode cX9_told 123 = .ok (.if_icmp .eq 12, 3) := by decide +kernel
theorem dX9_told_126 : decode cX9_told 126 = .ok (.aload_n 0, 1) := by decide +kernel
theorem dX9_told_127 : decode cX9_told 127 = .ok (.getfield 116, 3) := by decide +kernel
theorem dX9_told_130 : decode cX9_told 130 = .ok (.bipush 6, 2) := by decide +kernel
theorem dX9_told_132 : decode cX9_told 132 = .ok (.if_icmp .ne 12, 3) := by decide +kernel
theorem dX9_told_135 : decode cX9_told 135 = .ok (.aload_n 0, 1) := by decide +kernel
theorem dX9_told_136 : decode cX9_told 136 = .ok (.getfield 41, 3) := by decide +kernel
theorem dX9_told_139 : decode cX9_told 139 = .ok (.iload_n 1, 1) := by decide +kernel
theorem dX9_told_140 : decode cX9_told 140 = .ok (.iaload, 1) := by decide +kernel
theorem dX9_told_141 : decode cX9_told 141 = .ok (.goto 18, 3) := by decide +kernel
theorem dX9_told_144 : decode cX9_told 144 = .ok (.aload_n 0, 1) := by decide +kernel
theorem dX9_told_145 : decode cX9_told 145 = .ok (.getfield 116, 3) := by decide +kernel
theorem dX9_told_148 : decode cX9_told 148 = .ok (.ifCond .ne 7, 3) := by decide +kernel
theorem dX9_told_151 : decode cX9_told 151 = .ok (.iconst 0, 1) := by decide +kernel
theorem dX9_told_152 : decode cX9_told 152 = .ok (.goto 7, 3) := by decide +kernel
theorem dX9_told_155 : decode cX9_told 155 = .ok (.aload_n 0, 1) := by decide +kernel
theorem dX9_told_156 : decode cX9_told 156 = .ok (.getfield 119, 3) := by decide +kernel
theorem dX9_told_159 : decode cX9_told 159 = .ok (.ireturn, 1) := by decide +kernel
theorem dX9_told_160 : decode cX9_told 160 = .ok (.aload_n 0, 1) := by decide +kernel
theorem dX9_told_161 : decode cX9_told 161 = .ok (.getfield 122, 3) := by decide +kernel
theorem dX9_told_164 : decode cX9_told 164 = .ok (.ireturn, 1) := by decide +kernel
theorem dX9_told_165 : decode cX9_told 165 = .ok (.aload_n 0, 1) := by decide +kernel
theorem dX9_told_166 : decode cX9_told 166 = .ok (.getfield 125, 3) := by decide +kernel
theorem dX9_told_169 : decode cX9_told 169 = .ok (.ifCond .eq 7, 3) := by decide +kernel
theorem dX9_told_172 : decode cX9_told 172 = .ok (.iconst 1, 1) := by decide +kernel
theorem dX9_told_173 : decode cX9_told 173 = .ok (.goto 4, 3) := by decide +kernel
theorem dX9_told_176 : decode cX9_told 176 = .ok (.iconst 0, 1) := by decide +kernel
theorem dX9_told_177 : decode cX9_told 177 = .ok (.ireturn, 1) := by decide +kernel
theorem dX9_told_178 : decode cX9_told 178 = .ok (.aload_n 0, 1) := by decide +kernel
theorem dX9_told_179 : decode cX9_told 179 = .ok (.getfield 134, 3) := by decide +kernel
theorem dX9_told_182 : decode cX9_told 182 = .ok (.ifCond .le 7, 3) := by decide +kernel
theorem dX9_told_185 : decode cX9_told 185 = .ok (.iconst 0, 1) := by decide +kernel
theorem dX9_told_186 : decode cX9_told 186 = .ok (.goto 7, 3) := by decide +kernel
theorem dX9_told_189 : decode cX9_told 189 = .ok (.aload_n 0, 1) := by decide +kernel
theorem dX9_told_190 : decode cX9_told 190 = .ok (.getfield 131, 3) := by decide +kernel
theorem dX9_told_193 : decode cX9_told 193 = .ok (.ireturn, 1) := by decide +kernel
theorem dX9_told_194 : decode cX9_told 194 = .ok (.aload_n 0, 1) := by decide +kernel
theorem dX9_told_195 : decode cX9_told 195 = .ok (.getfield 140, 3) := by decide +kernel
theorem dX9_told_198 : decode cX9_told 198 = .ok (.ireturn, 1) := by decide +kernel
theorem dX9_aboutAnew_0 : decode cX9_aboutAnew 0 = .ok (.aload_n 0, 1) := by decide +kernel
theorem dX9_aboutAnew_1 : decode cX9_aboutAnew 1 = .ok (.iload_n 1, 1) := by decide +kernel
theorem dX9_aboutAnew_2 : decode cX9_aboutAnew 2 = .ok (.iload_n 2, 1) := by decide +kernel
theorem dX9_aboutAnew_3 : decode cX9_aboutAnew 3 = .ok (.invokevirtual 297, 3) := by decide +kernel
theorem dX9_aboutAnew_6 : decode cX9_aboutAnew 6 = .ok (.ireturn, 1) := by decide +kernel
theorem dX9_parent_0 : decode cX9_parent 0 = .ok (.aload_n 0, 1) := by decide +kernel
theorem dX9_parent_1 : decode cX9_parent 1 = .ok (.aload_n 0, 1) := by decide +kernel
theorem dX9_parent_2 : decode cX9_parent 2 = .ok (.iload_n 1, 1) := by decide +kernel
theorem dX9_parent_3 : decode cX9_parent 3 = .ok (.invokevirtual 262, 3) := by decide +kernel
theorem dX9_parent_6 : decode cX9_parent 6 = .ok (.invokevirtual 269, 3) := by decide +kernel
theorem dX9_parent_9 : decode cX9_parent 9 = .ok (.ifCond .eq 12, 3) := by decide +kernel
theorem dX9_parent_12 : decode cX9_parent 12 = .ok (.aload_n 0, 1) := by decide +kernel
theorem dX9_parent_13 : decode cX9_parent 13 = .ok (.getfield 26, 3) := by decide +kernel
theorem dX9_parent_16 : decode cX9_parent 16 = .ok (.iload_n 1, 1) := by decide +kernel
theorem dX9_parent_17 : decode cX9_parent 17 = .ok (.iaload, 1) := by decide +kernel
theorem dX9_parent_18 : decode cX9_parent 18 = .ok (.goto 4, 3) := by decide +kernel
theorem dX9_parent_21 : decode cX9_parent 21 = .ok (.iconst 0, 1) := by decide +kernel
theorem dX9_parent_22 : decode cX9_parent 22 = .ok (.ireturn, 1) := by decide +kernel
theorem dX9_events_0 : decode cX9_events 0 = .ok (.aload_n 0, 1) := by decide +kernel
theorem dX9_events_1 : decode cX9_events 1 = .ok (.aload_n 0, 1) := by decide +kernel
theorem dX9_events_2 : decode cX9_events 2 = .ok (.iload_n 1, 1) := by decide +kernel
theorem dX9_events_3 : decode cX9_events 3 = .ok (.invokevirtual 262, 3) := by decide +kernel
theorem dX9_events_6 : decode cX9_events 6 = .ok (.invokevirtual 269, 3) := by decide +kernel
theorem dX9_events_9 : decode cX9_events 9 = .ok (.ifCond .eq 12, 3) := by decide +kernel
theorem dX9_events_12 : decode cX9_events 12 = .ok (.aload_n 0, 1) := by decide +kernel
theorem dX9_events_13 : decode cX9_events 13 = .ok (.getfield 35, 3) := by decide +kernel
theorem dX9_events_16 : decode cX9_events 16 = .ok (.iload_n 1, 1) := by decide +kernel
theorem dX9_events_17 : decode cX9_events 17 = .ok (.iaload, 1) := by decide +kernel
theorem dX9_events_18 : decode cX9_events 18 = .ok (.goto 4, 3) := by decide +kernel
theorem dX9_events_21 : decode cX9_events 21 = .ok (.iconst 0, 1) := by decide +kernel
theorem dX9_events_22 : decode cX9_events 22 = .ok (.ireturn, 1) := by decide +kernel
theorem dX9_kind_0 : decode cX9_kind 0 = .ok (.aload_n 0, 1) := by decide +kernel
theorem dX9_kind_1 : decode cX9_kind 1 = .ok (.aload_n 0, 1) := by decide +kernel
theorem dX9_kind_2 : decode cX9_kind 2 = .ok (.iload_n 1, 1) := by decide +kernel
theorem dX9_kind_3 : decode cX9_kind 3 = .ok (.iload_n 2, 1) := by decide +kernel
theorem dX9_kind_4 : decode cX9_kind 4 = .ok (.invokevirtual 300, 3) := by decide +kernel
theorem dX9_kind_7 : decode cX9_kind 7 = .ok (.invokevirtual 269, 3) := by decide +kernel
theorem dX9_kind_10 : decode cX9_kind 10 = .ok (.ifCond .eq 18, 3) := by decide +kernel
theorem dX9_kind_13 : decode cX9_kind 13 = .ok (.aload_n 0, 1) := by decide +kernel
theorem dX9_kind_14 : decode cX9_kind 14 = .ok (.getfield 44, 3) := by decide +kernel
theorem dX9_kind_17 : decode cX9_kind 17 = .ok (.sipush 160, 3) := by decide +kernel
theorem dX9_kind_20 : decode cX9_kind 20 = .ok (.iload_n 1, 1) := by decide +kernel
theorem dX9_kind_21 : decode cX9_kind 21 = .ok (.imul, 1) := by decide +kernel
theorem dX9_kind_22 : decode cX9_kind 22 = .ok (.iload_n 2, 1) := by decide +kernel
theorem dX9_kind_23 : decode cX9_kind 23 = .ok (.iadd, 1) := by decide +kernel
theorem dX9_kind_24 : decode cX9_kind 24 = .ok (.iaload, 1) := by decide +kernel
theorem dX9_kind_25 : decode cX9_kind 25 = .ok (.goto 4, 3) := by decide +kernel
theorem dX9_kind_28 : decode cX9_kind 28 = .ok (.iconst 0, 1) := by decide +kernel
theorem dX9_kind_29 : decode cX9_kind 29 = .ok (.ireturn, 1) := by decide +kernel
theorem dX9_isEvent_0 : decode cX9_isEvent 0 = .ok (.aload_n 0, 1) := by decide +kernel
theorem dX9_isEvent_1 : decode cX9_isEvent 1 = .ok (.iload_n 1, 1) := by decide +kernel
theorem dX9_isEvent_2 : decode cX9_isEvent 2 = .ok (.invokevirtual 262, 3) := by decide +kernel
theorem dX9_isEvent_5 : decode cX9_isEvent 5 = .ok (.ifCond .eq 23, 3) := by decide +kernel
theorem dX9_isEvent_8 : decode cX9_isEvent 8 = .ok (.iload_n 2, 1) := by decide +kernel
theorem dX9_isEvent_9 : decode cX9_isEvent 9 = .ok (.iconst 0, 1) := by decide +kernel
theorem dX9_isEvent_10 : decode cX9_isEvent 10 = .ok (.aload_n 0, 1) := by decide +kernel
theorem dX9_isEvent_11 : decode cX9_isEvent 11 = .ok (.getfield 35, 3) := by decide +kernel
theorem dX9_isEvent_14 : decode cX9_isEvent 14 = .ok (.iload_n 1, 1) := by decide +kernel
theorem dX9_isEvent_15 : decode cX9_isEvent 15 = .ok (.iaload, 1) := by decide +kernel
theorem dX9_isEvent_16 : decode cX9_isEvent 16 = .ok (.iconst 1, 1) := by decide +kernel
theorem dX9_isEvent_17 : decode cX9_isEvent 17 = .ok (.isub, 1) := by decide +kernel
theorem dX9_isEvent_18 : decode cX9_isEvent 18 = .ok (.invokestatic 96, 3) := by decide +kernel
theorem dX9_isEvent_21 : decode cX9_isEvent 21 = .ok (.ifCond .eq 7, 3) := by decide +kernel
theorem dX9_isEvent_24 : decode cX9_isEvent 24 = .ok (.iconst 1, 1) := by decide +kernel
theorem dX9_isEvent_25 : decode cX9_isEvent 25 = .ok (.goto 4, 3) := by decide +kernel
theorem dX9_isEvent_28 : decode cX9_isEvent 28 = .ok (.iconst 0, 1) := by decide +kernel
theorem dX9_isEvent_29 : decode cX9_isEvent 29 = .ok (.ireturn, 1) := by decide +kernel
theorem dX9_number_0 : decode cX9_number 0 = .ok (.aload_n 0, 1) := by decide +kernel
theorem dX9_number_1 : decode cX9_number 1 = .ok (.aload_n 0, 1) := by decide +kernel
theorem dX9_number_2 : decode cX9_number 2 = .ok (.iload_n 1, 1) := by decide +kernel
theorem dX9_number_3 : decode cX9_number 3 = .ok (.iload_n 2, 1) := by decide +kernel
theorem dX9_number_4 : decode cX9_number 4 = .ok (.invokevirtual 300, 3) := by decide +kernel
theorem dX9_number_7 : decode cX9_number 7 = .ok (.invokevirtual 269, 3) := by decide +kernel
theorem dX9_number_10 : decode cX9_number 10 = .ok (.ifCond .eq 18, 3) := by decide +kernel
theorem dX9_number_13 : decode cX9_number 13 = .ok (.aload_n 0, 1) := by decide +kernel
theorem dX9_number_14 : decode cX9_number 14 = .ok (.getfield 47, 3) := by decide +kernel
theorem dX9_number_17 : decode cX9_number 17 = .ok (.sipush 160, 3) := by decide +kernel
theorem dX9_number_20 : decode cX9_number 20 = .ok (.iload_n 1, 1) := by decide +kernel
theorem dX9_number_21 : decode cX9_number 21 = .ok (.imul, 1) := by decide +kernel
theorem dX9_number_22 : decode cX9_number 22 = .ok (.iload_n 2, 1) := by decide +kernel
theorem dX9_number_23 : decode cX9_number 23 = .ok (.iadd, 1) := by decide +kernel
theorem dX9_number_24 : decode cX9_number 24 = .ok (.laload, 1) := by decide +kernel
theorem dX9_number_25 : decode cX9_number 25 = .ok (.goto 4, 3) := by decide +kernel
theorem dX9_number_28 : decode cX9_number 28 = .ok (.lconst 0, 1) := by decide +kernel
theorem dX9_number_29 : decode cX9_number 29 = .ok (.lreturn, 1) := by decide +kernel
theorem dX9_tasks_0 : decode cX9_tasks 0 = .ok (.aload_n 0, 1) := by decide +kernel
theorem dX9_tasks_1 : decode cX9_tasks 1 = .ok (.iconst 0, 1) := by decide +kernel
theorem dX9_tasks_2 : decode cX9_tasks 2 = .ok (.putfield 90, 3) := by decide +kernel
theorem dX9_tasks_5 : decode cX9_tasks 5 = .ok (.aload_n 0, 1) := by decide +kernel
theorem dX9_tasks_6 : decode cX9_tasks 6 = .ok (.getfield 100, 3) := by decide +kernel
theorem dX9_tasks_9 : decode cX9_tasks 9 = .ok (.ireturn, 1) := by decide +kernel
theorem dX9_task_0 : decode cX9_task 0 = .ok (.aload_n 0, 1) := by decide +kernel
theorem dX9_task_1 : decode cX9_task 1 = .ok (.iload_n 1, 1) := by decide +kernel
theorem dX9_task_2 : decode cX9_task 2 = .ok (.iconst 0, 1) := by decide +kernel
theorem dX9_task_3 : decode cX9_task 3 = .ok (.aload_n 0, 1) := by decide +kernel
theorem dX9_task_4 : decode cX9_task 4 = .ok (.getfield 100, 3) := by decide +kernel
theorem dX9_task_7 : decode cX9_task 7 = .ok (.iconst 1, 1) := by decide +kernel
theorem dX9_task_8 : decode cX9_task 8 = .ok (.isub, 1) := by decide +kernel
theorem dX9_task_9 : decode cX9_task 9 = .ok (.invokestatic 96, 3) := by decide +kernel
theorem dX9_task_12 : decode cX9_task 12 = .ok (.iload_n 2, 1) := by decide +kernel
theorem dX9_task_13 : decode cX9_task 13 = .ok (.iconst 0, 1) := by decide +kernel
theorem dX9_task_14 : decode cX9_task 14 = .ok (.iconst 5, 1) := by decide +kernel
theorem dX9_task_15 : decode cX9_task 15 = .ok (.invokestatic 96, 3) := by decide +kernel
theorem dX9_task_18 : decode cX9_task 18 = .ok (.invokevirtual 245, 3) := by decide +kernel
theorem dX9_task_21 : decode cX9_task 21 = .ok (.ifCond .ne 5, 3) := by decide +kernel
theorem dX9_task_24 : decode cX9_task 24 = .ok (.iconst 0, 1) := by decide +kernel
theorem dX9_task_25 : decode cX9_task 25 = .ok (.ireturn, 1) := by decide +kernel
theorem dX9_task_26 : decode cX9_task 26 = .ok (.iload_n 2, 1) := by decide +kernel
theorem dX9_task_27 : decode cX9_task 27 = .ok (.ifCond .ne 12, 3) := by decide +kernel
theorem dX9_task_30 : decode cX9_task 30 = .ok (.aload_n 0, 1) := by decide +kernel
theorem dX9_task_31 : decode cX9_task 31 = .ok (.getfield 51, 3) := by decide +kernel
theorem dX9_task_34 : decode cX9_task 34 = .ok (.iload_n 1, 1) := by decide +kernel
theorem dX9_task_35 : decode cX9_task 35 = .ok (.iaload, 1) := by decide +kernel
theorem dX9_task_36 : decode cX9_task 36 = .ok (.goto 65, 3) := by decide +kernel
theorem dX9_task_39 : decode cX9_task 39 = .ok (.iload_n 2, 1) := by decide +kernel
theorem dX9_task_40 : decode cX9_task 40 = .ok (.iconst 1, 1) := by decide +kernel
theorem dX9_task_41 : decode cX9_task 41 = .ok (.if_icmp .ne 12, 3) := by decide +kernel
theorem dX9_task_44 : decode cX9_task 44 = .ok (.aload_n 0, 1) := by decide +kernel
theorem dX9_task_45 : decode cX9_task 45 = .ok (.getfield 54, 3) := by decide +kernel
theorem dX9_task_48 : decode cX9_task 48 = .ok (.iload_n 1, 1) := by decide +kernel
theorem dX9_task_49 : decode cX9_task 49 = .ok (.iaload, 1) := by decide +kernel
theorem dX9_task_50 : decode cX9_task 50 = .ok (.goto 51, 3) := by decide +kernel
theorem dX9_task_53 : decode cX9_task 53 = .ok (.iload_n 2, 1) := by decide +kernel
theorem dX9_task_54 : decode cX9_task 54 = .ok (.iconst 2, 1) := by decide +kernel
theorem dX9_task_55 : decode cX9_task 55 = .ok (.if_icmp .ne 12, 3) := by decide +kernel
theorem dX9_task_58 : decode cX9_task 58 = .ok (.aload_n 0, 1) := by decide +kernel
theorem dX9_task_59 : decode cX9_task 59 = .ok (.getfield 57, 3) := by decide +kernel
theorem dX9_task_62 : decode cX9_task 62 = .ok (.iload_n 1, 1) := by decide +kernel
theorem dX9_task_63 : decode cX9_task 63 = .ok (.iaload, 1) := by decide +kernel
theorem dX9_task_64 : decode cX9_task 64 = .ok (.goto 37, 3) := by decide +kernel
theorem dX9_task_67 : decode cX9_task 67 = .ok (.iload_n 2, 1) := by decide +kernel
theorem dX9_task_68 : decode cX9_task 68 = .ok (.iconst 3, 1) := by decide +kernel
theorem dX9_task_69 : decode cX9_task 69 = .ok (.if_icmp .ne 12, 3) := by decide +kernel
theorem dX9_task_72 : decode cX9_task 72 = .ok (.aload_n 0, 1) := by decide +kernel
theorem dX9_task_73 : decode cX9_task 73 = .ok (.getfield 60, 3) := by decide +kernel
theorem dX9_task_76 : decode cX9_task 76 = .ok (.iload_n 1, 1) := by decide +kernel
theorem dX9_task_77 : decode cX9_task 77 = .ok (.iaload, 1) := by decide +kernel
theorem dX9_task_78 : decode cX9_task 78 = .ok (.goto 23, 3) := by decide +kernel
theorem dX9_task_81 : decode cX9_task 81 = .ok (.iload_n 2, 1) := by decide +kernel
theorem dX9_task_82 : decode cX9_task 82 = .ok (.iconst 4, 1) := by decide +kernel
theorem dX9_task_83 : decode cX9_task 83 = .ok (.if_icmp .ne 12, 3) := by decide +kernel
theorem dX9_task_86 : decode cX9_task 86 = .ok (.aload_n 0, 1) := by decide +kernel
theorem dX9_task_87 : decode cX9_task 87 = .ok (.getfield 63, 3) := by decide +kernel
theorem dX9_task_90 : decode cX9_task 90 = .ok (.iload_n 1, 1) := by decide +kernel
theorem dX9_task_91 : decode cX9_task 91 = .ok (.iaload, 1) := by decide +kernel
theorem dX9_task_92 : decode cX9_task 92 = .ok (.goto 9, 3) := by decide +kernel
theorem dX9_task_95 : decode cX9_task 95 = .ok (.aload_n 0, 1) := by decide +kernel
theorem dX9_task_96 : decode cX9_task 96 = .ok (.getfield 66, 3) := by decide +kernel
theorem dX9_task_99 : decode cX9_task 99 = .ok (.iload_n 1, 1) := by decide +kernel
theorem dX9_task_100 : decode cX9_task 100 = .ok (.iaload, 1) := by decide +kernel
theorem dX9_task_101 : decode cX9_task 101 = .ok (.ireturn, 1) := by decide +kernel
theorem dX9_now_0 : decode cX9_now 0 = .ok (.aload_n 0, 1) := by decide +kernel
theorem dX9_now_1 : decode cX9_now 1 = .ok (.iconst 0, 1) := by decide +kernel
theorem dX9_now_2 : decode cX9_now 2 = .ok (.putfield 90, 3) := by decide +kernel
theorem dX9_now_5 : decode cX9_now 5 = .ok (.aload_n 0, 1) := by decide +kernel
theorem dX9_now_6 : decode cX9_now 6 = .ok (.getfield 197, 3) := by decide +kernel
theorem dX9_now_9 : decode cX9_now 9 = .ok (.ireturn, 1) := by decide +kernel
