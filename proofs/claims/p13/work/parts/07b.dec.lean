theorem dX8_goOn_28 : decode cX8_goOn 28 = .ok (.getfield 35, 3) := by decide +kernel
theorem dX8_goOn_31 : decode cX8_goOn 31 = .ok (.aload_n 0, 1) := by decide +kernel
theorem dX8_goOn_32 : decode cX8_goOn 32 = .ok (.getfield 39, 3) := by decide +kernel
theorem dX8_goOn_35 : decode cX8_goOn 35 = .ok (.invokevirtual 344, 3) := by decide +kernel
theorem dX8_goOn_38 : decode cX8_goOn 38 = .ok (.invokevirtual 337, 3) := by decide +kernel
theorem dX8_goOn_41 : decode cX8_goOn 41 = .ok (.aload_n 0, 1) := by decide +kernel
theorem dX8_goOn_42 : decode cX8_goOn 42 = .ok (.getfield 35, 3) := by decide +kernel
theorem dX8_goOn_45 : decode cX8_goOn 45 = .ok (.invokevirtual 348, 3) := by decide +kernel
theorem dX8_goOn_48 : decode cX8_goOn 48 = .ok (.astore_n 3, 1) := by decide +kernel
theorem dX8_goOn_49 : decode cX8_goOn 49 = .ok (.aload_n 3, 1) := by decide +kernel
theorem dX8_goOn_50 : decode cX8_goOn 50 = .ok (.ifnonnull 4, 3) := by decide +kernel
theorem dX8_goOn_53 : decode cX8_goOn 53 = .ok (.return_, 1) := by decide +kernel
theorem dX8_goOn_54 : decode cX8_goOn 54 = .ok (.aload_n 3, 1) := by decide +kernel
theorem dX8_goOn_55 : decode cX8_goOn 55 = .ok (.getfield 249, 3) := by decide +kernel
theorem dX8_goOn_58 : decode cX8_goOn 58 = .ok (.aload_n 3, 1) := by decide +kernel
theorem dX8_goOn_59 : decode cX8_goOn 59 = .ok (.getfield 179, 3) := by decide +kernel
theorem dX8_goOn_62 : decode cX8_goOn 62 = .ok (.invokevirtual 183, 3) := by decide +kernel
theorem dX8_goOn_65 : decode cX8_goOn 65 = .ok (.invokevirtual 289, 3) := by decide +kernel
theorem dX8_goOn_68 : decode cX8_goOn 68 = .ok (.aload_n 3, 1) := by decide +kernel
theorem dX8_goOn_69 : decode cX8_goOn 69 = .ok (.invokevirtual 351, 3) := by decide +kernel
theorem dX8_goOn_72 : decode cX8_goOn 72 = .ok (.aload_n 3, 1) := by decide +kernel
theorem dX8_goOn_73 : decode cX8_goOn 73 = .ok (.getfield 249, 3) := by decide +kernel
theorem dX8_goOn_76 : decode cX8_goOn 76 = .ok (.invokevirtual 354, 3) := by decide +kernel
theorem dX8_goOn_79 : decode cX8_goOn 79 = .ok (.ifCond .eq 36, 3) := by decide +kernel
theorem dX8_goOn_82 : decode cX8_goOn 82 = .ok (.aload_n 0, 1) := by decide +kernel
theorem dX8_goOn_83 : decode cX8_goOn 83 = .ok (.aload_n 3, 1) := by decide +kernel
theorem dX8_goOn_84 : decode cX8_goOn 84 = .ok (.invokevirtual 357, 3) := by decide +kernel
theorem dX8_goOn_87 : decode cX8_goOn 87 = .ok (.astore 4, 2) := by decide +kernel
theorem dX8_goOn_89 : decode cX8_goOn 89 = .ok (.aload_n 3, 1) := by decide +kernel
theorem dX8_goOn_90 : decode cX8_goOn 90 = .ok (.getfield 249, 3) := by decide +kernel
theorem dX8_goOn_93 : decode cX8_goOn 93 = .ok (.aload_n 3, 1) := by decide +kernel
theorem dX8_goOn_94 : decode cX8_goOn 94 = .ok (.getfield 179, 3) := by decide +kernel
theorem dX8_goOn_97 : decode cX8_goOn 97 = .ok (.invokevirtual 183, 3) := by decide +kernel
theorem dX8_goOn_100 : decode cX8_goOn 100 = .ok (.invokevirtual 289, 3) := by decide +kernel
theorem dX8_goOn_103 : decode cX8_goOn 103 = .ok (.aload_n 0, 1) := by decide +kernel
theorem dX8_goOn_104 : decode cX8_goOn 104 = .ok (.getfield 35, 3) := by decide +kernel
theorem dX8_goOn_107 : decode cX8_goOn 107 = .ok (.aload 4, 2) := by decide +kernel
theorem dX8_goOn_109 : decode cX8_goOn 109 = .ok (.invokevirtual 337, 3) := by decide +kernel
theorem dX8_goOn_112 : decode cX8_goOn 112 = .ok (.goto 8, 3) := by decide +kernel
theorem dX8_goOn_115 : decode cX8_goOn 115 = .ok (.aload_n 0, 1) := by decide +kernel
theorem dX8_goOn_116 : decode cX8_goOn 116 = .ok (.aload_n 3, 1) := by decide +kernel
theorem dX8_goOn_117 : decode cX8_goOn 117 = .ok (.invokevirtual 361, 3) := by decide +kernel
theorem dX8_goOn_120 : decode cX8_goOn 120 = .ok (.iinc 2 1, 3) := by decide +kernel
theorem dX8_goOn_123 : decode cX8_goOn 123 = .ok (.goto (-113), 3) := by decide +kernel
theorem dX8_goOn_126 : decode cX8_goOn 126 = .ok (.return_, 1) := by decide +kernel
theorem dX2_addLast_0 : decode cX2_addLast 0 = .ok (.aload_n 1, 1) := by decide +kernel
theorem dX2_addLast_1 : decode cX2_addLast 1 = .ok (.ifnull 42, 3) := by decide +kernel
theorem dX2_addLast_4 : decode cX2_addLast 4 = .ok (.aload_n 0, 1) := by decide +kernel
theorem dX2_addLast_5 : decode cX2_addLast 5 = .ok (.getfield 21, 3) := by decide +kernel
theorem dX2_addLast_8 : decode cX2_addLast 8 = .ok (.ifCond .lt 35, 3) := by decide +kernel
theorem dX2_addLast_11 : decode cX2_addLast 11 = .ok (.aload_n 0, 1) := by decide +kernel
theorem dX2_addLast_12 : decode cX2_addLast 12 = .ok (.getfield 21, 3) := by decide +kernel
theorem dX2_addLast_15 : decode cX2_addLast 15 = .ok (.aload_n 0, 1) := by decide +kernel
theorem dX2_addLast_16 : decode cX2_addLast 16 = .ok (.getfield 11, 3) := by decide +kernel
theorem dX2_addLast_19 : decode cX2_addLast 19 = .ok (.arraylength, 1) := by decide +kernel
theorem dX2_addLast_20 : decode cX2_addLast 20 = .ok (.if_icmp .ge 23, 3) := by decide +kernel
theorem dX2_addLast_23 : decode cX2_addLast 23 = .ok (.aload_n 0, 1) := by decide +kernel
theorem dX2_addLast_24 : decode cX2_addLast 24 = .ok (.getfield 11, 3) := by decide +kernel
theorem dX2_addLast_27 : decode cX2_addLast 27 = .ok (.aload_n 0, 1) := by decide +kernel
theorem dX2_addLast_28 : decode cX2_addLast 28 = .ok (.getfield 21, 3) := by decide +kernel
theorem dX2_addLast_31 : decode cX2_addLast 31 = .ok (.aload_n 1, 1) := by decide +kernel
theorem dX2_addLast_32 : decode cX2_addLast 32 = .ok (.aastore, 1) := by decide +kernel
theorem dX2_addLast_33 : decode cX2_addLast 33 = .ok (.aload_n 0, 1) := by decide +kernel
theorem dX2_addLast_34 : decode cX2_addLast 34 = .ok (.dup, 1) := by decide +kernel
theorem dX2_addLast_35 : decode cX2_addLast 35 = .ok (.getfield 21, 3) := by decide +kernel
theorem dX2_addLast_38 : decode cX2_addLast 38 = .ok (.iconst 1, 1) := by decide +kernel
theorem dX2_addLast_39 : decode cX2_addLast 39 = .ok (.iadd, 1) := by decide +kernel
theorem dX2_addLast_40 : decode cX2_addLast 40 = .ok (.putfield 21, 3) := by decide +kernel
theorem dX2_addLast_43 : decode cX2_addLast 43 = .ok (.return_, 1) := by decide +kernel
theorem dX2_isEmpty_0 : decode cX2_isEmpty 0 = .ok (.aload_n 0, 1) := by decide +kernel
theorem dX2_isEmpty_1 : decode cX2_isEmpty 1 = .ok (.getfield 17, 3) := by decide +kernel
theorem dX2_isEmpty_4 : decode cX2_isEmpty 4 = .ok (.aload_n 0, 1) := by decide +kernel
theorem dX2_isEmpty_5 : decode cX2_isEmpty 5 = .ok (.getfield 21, 3) := by decide +kernel
theorem dX2_isEmpty_8 : decode cX2_isEmpty 8 = .ok (.if_icmp .lt 7, 3) := by decide +kernel
theorem dX2_isEmpty_11 : decode cX2_isEmpty 11 = .ok (.iconst 1, 1) := by decide +kernel
theorem dX2_isEmpty_12 : decode cX2_isEmpty 12 = .ok (.goto 4, 3) := by decide +kernel
theorem dX2_isEmpty_15 : decode cX2_isEmpty 15 = .ok (.iconst 0, 1) := by decide +kernel
theorem dX2_isEmpty_16 : decode cX2_isEmpty 16 = .ok (.ireturn, 1) := by decide +kernel
theorem dX2_removeFirst_0 : decode cX2_removeFirst 0 = .ok (.aload_n 0, 1) := by decide +kernel
theorem dX2_removeFirst_1 : decode cX2_removeFirst 1 = .ok (.getfield 17, 3) := by decide +kernel
theorem dX2_removeFirst_4 : decode cX2_removeFirst 4 = .ok (.ifCond .lt 26, 3) := by decide +kernel
theorem dX2_removeFirst_7 : decode cX2_removeFirst 7 = .ok (.aload_n 0, 1) := by decide +kernel
theorem dX2_removeFirst_8 : decode cX2_removeFirst 8 = .ok (.getfield 17, 3) := by decide +kernel
theorem dX2_removeFirst_11 : decode cX2_removeFirst 11 = .ok (.aload_n 0, 1) := by decide +kernel
theorem dX2_removeFirst_12 : decode cX2_removeFirst 12 = .ok (.getfield 21, 3) := by decide +kernel
theorem dX2_removeFirst_15 : decode cX2_removeFirst 15 = .ok (.if_icmp .ge 15, 3) := by decide +kernel
theorem dX2_removeFirst_18 : decode cX2_removeFirst 18 = .ok (.aload_n 0, 1) := by decide +kernel
theorem dX2_removeFirst_19 : decode cX2_removeFirst 19 = .ok (.getfield 17, 3) := by decide +kernel
theorem dX2_removeFirst_22 : decode cX2_removeFirst 22 = .ok (.aload_n 0, 1) := by decide +kernel
theorem dX2_removeFirst_23 : decode cX2_removeFirst 23 = .ok (.getfield 11, 3) := by decide +kernel
theorem dX2_removeFirst_26 : decode cX2_removeFirst 26 = .ok (.arraylength, 1) := by decide +kernel
theorem dX2_removeFirst_27 : decode cX2_removeFirst 27 = .ok (.if_icmp .lt 15, 3) := by decide +kernel
theorem dX2_removeFirst_30 : decode cX2_removeFirst 30 = .ok (.aload_n 0, 1) := by decide +kernel
theorem dX2_removeFirst_31 : decode cX2_removeFirst 31 = .ok (.iconst 0, 1) := by decide +kernel
theorem dX2_removeFirst_32 : decode cX2_removeFirst 32 = .ok (.putfield 17, 3) := by decide +kernel
theorem dX2_removeFirst_35 : decode cX2_removeFirst 35 = .ok (.aload_n 0, 1) := by decide +kernel
theorem dX2_removeFirst_36 : decode cX2_removeFirst 36 = .ok (.iconst 0, 1) := by decide +kernel
theorem dX2_removeFirst_37 : decode cX2_removeFirst 37 = .ok (.putfield 21, 3) := by decide +kernel
theorem dX2_removeFirst_40 : decode cX2_removeFirst 40 = .ok (.aconst_null, 1) := by decide +kernel
theorem dX2_removeFirst_41 : decode cX2_removeFirst 41 = .ok (.areturn, 1) := by decide +kernel
theorem dX2_removeFirst_42 : decode cX2_removeFirst 42 = .ok (.aload_n 0, 1) := by decide +kernel
theorem dX2_removeFirst_43 : decode cX2_removeFirst 43 = .ok (.getfield 11, 3) := by decide +kernel
theorem dX2_removeFirst_46 : decode cX2_removeFirst 46 = .ok (.aload_n 0, 1) := by decide +kernel
theorem dX2_removeFirst_47 : decode cX2_removeFirst 47 = .ok (.getfield 17, 3) := by decide +kernel
theorem dX2_removeFirst_50 : decode cX2_removeFirst 50 = .ok (.aaload, 1) := by decide +kernel
theorem dX2_removeFirst_51 : decode cX2_removeFirst 51 = .ok (.astore_n 1, 1) := by decide +kernel
theorem dX2_removeFirst_52 : decode cX2_removeFirst 52 = .ok (.aload_n 0, 1) := by decide +kernel
theorem dX2_removeFirst_53 : decode cX2_removeFirst 53 = .ok (.dup, 1) := by decide +kernel
theorem dX2_removeFirst_54 : decode cX2_removeFirst 54 = .ok (.getfield 17, 3) := by decide +kernel
theorem dX2_removeFirst_57 : decode cX2_removeFirst 57 = .ok (.iconst 1, 1) := by decide +kernel
theorem dX2_removeFirst_58 : decode cX2_removeFirst 58 = .ok (.iadd, 1) := by decide +kernel
theorem dX2_removeFirst_59 : decode cX2_removeFirst 59 = .ok (.putfield 17, 3) := by decide +kernel
theorem dX2_removeFirst_62 : decode cX2_removeFirst 62 = .ok (.aload_n 1, 1) := by decide +kernel
theorem dX2_removeFirst_63 : decode cX2_removeFirst 63 = .ok (.areturn, 1) := by decide +kernel
theorem dX2_last_0 : decode cX2_last 0 = .ok (.aload_n 0, 1) := by decide +kernel
theorem dX2_last_1 : decode cX2_last 1 = .ok (.getfield 21, 3) := by decide +kernel
theorem dX2_last_4 : decode cX2_last 4 = .ok (.iconst 1, 1) := by decide +kernel
theorem dX2_last_5 : decode cX2_last 5 = .ok (.isub, 1) := by decide +kernel
theorem dX2_last_6 : decode cX2_last 6 = .ok (.istore_n 1, 1) := by decide +kernel
theorem dX2_last_7 : decode cX2_last 7 = .ok (.iload_n 1, 1) := by decide +kernel
theorem dX2_last_8 : decode cX2_last 8 = .ok (.aload_n 0, 1) := by decide +kernel
theorem dX2_last_9 : decode cX2_last 9 = .ok (.getfield 17, 3) := by decide +kernel
theorem dX2_last_12 : decode cX2_last 12 = .ok (.if_icmp .lt 25, 3) := by decide +kernel
theorem dX2_last_15 : decode cX2_last 15 = .ok (.iload_n 1, 1) := by decide +kernel
theorem dX2_last_16 : decode cX2_last 16 = .ok (.ifCond .lt 21, 3) := by decide +kernel
theorem dX2_last_19 : decode cX2_last 19 = .ok (.iload_n 1, 1) := by decide +kernel
theorem dX2_last_20 : decode cX2_last 20 = .ok (.aload_n 0, 1) := by decide +kernel
theorem dX2_last_21 : decode cX2_last 21 = .ok (.getfield 11, 3) := by decide +kernel
theorem dX2_last_24 : decode cX2_last 24 = .ok (.arraylength, 1) := by decide +kernel
theorem dX2_last_25 : decode cX2_last 25 = .ok (.if_icmp .ge 12, 3) := by decide +kernel
theorem dX2_last_28 : decode cX2_last 28 = .ok (.aload_n 0, 1) := by decide +kernel
theorem dX2_last_29 : decode cX2_last 29 = .ok (.getfield 11, 3) := by decide +kernel
theorem dX2_last_32 : decode cX2_last 32 = .ok (.iload_n 1, 1) := by decide +kernel
theorem dX2_last_33 : decode cX2_last 33 = .ok (.aaload, 1) := by decide +kernel
theorem dX2_last_34 : decode cX2_last 34 = .ok (.goto 4, 3) := by decide +kernel
theorem dX2_last_37 : decode cX2_last 37 = .ok (.aconst_null, 1) := by decide +kernel
theorem dX2_last_38 : decode cX2_last 38 = .ok (.areturn, 1) := by decide +kernel
theorem dX0_letGo_0 : decode cX0_letGo 0 = .ok (.aload_n 0, 1) := by decide +kernel
theorem dX0_letGo_1 : decode cX0_letGo 1 = .ok (.getfield 69, 3) := by decide +kernel
theorem dX0_letGo_4 : decode cX0_letGo 4 = .ok (.astore_n 1, 1) := by decide +kernel
theorem dX0_letGo_5 : decode cX0_letGo 5 = .ok (.aload_n 1, 1) := by decide +kernel
theorem dX0_letGo_6 : decode cX0_letGo 6 = .ok (.ifnull 27, 3) := by decide +kernel
theorem dX0_letGo_9 : decode cX0_letGo 9 = .ok (.aload_n 0, 1) := by decide +kernel
theorem dX0_letGo_10 : decode cX0_letGo 10 = .ok (.getfield 32, 3) := by decide +kernel
theorem dX0_letGo_13 : decode cX0_letGo 13 = .ok (.getfield 49, 3) := by decide +kernel
theorem dX0_letGo_16 : decode cX0_letGo 16 = .ok (.ifCond .ne 17, 3) := by decide +kernel
theorem dX0_letGo_19 : decode cX0_letGo 19 = .ok (.aload_n 0, 1) := by decide +kernel
theorem dX0_letGo_20 : decode cX0_letGo 20 = .ok (.getfield 32, 3) := by decide +kernel
theorem dX0_letGo_23 : decode cX0_letGo 23 = .ok (.invokevirtual 73, 3) := by decide +kernel
theorem dX0_letGo_26 : decode cX0_letGo 26 = .ok (.ifCond .ne 7, 3) := by decide +kernel
theorem dX0_letGo_29 : decode cX0_letGo 29 = .ok (.aload_n 1, 1) := by decide +kernel
theorem dX0_letGo_30 : decode cX0_letGo 30 = .ok (.invokevirtual 76, 3) := by decide +kernel
theorem dX0_letGo_33 : decode cX0_letGo 33 = .ok (.return_, 1) := by decide +kernel
theorem dX5_waitsForActivity_0 : decode cX5_waitsForActivity 0 = .ok (.aload_n 0, 1) := by decide +kernel
theorem dX5_waitsForActivity_1 : decode cX5_waitsForActivity 1 = .ok (.getfield 56, 3) := by decide +kernel
theorem dX5_waitsForActivity_4 : decode cX5_waitsForActivity 4 = .ok (.iconst 1, 1) := by decide +kernel
theorem dX5_waitsForActivity_5 : decode cX5_waitsForActivity 5 = .ok (.if_icmp .eq 12, 3) := by decide +kernel
theorem dX5_waitsForActivity_8 : decode cX5_waitsForActivity 8 = .ok (.aload_n 0, 1) := by decide +kernel
theorem dX5_waitsForActivity_9 : decode cX5_waitsForActivity 9 = .ok (.getfield 56, 3) := by decide +kernel
theorem dX5_waitsForActivity_12 : decode cX5_waitsForActivity 12 = .ok (.bipush 6, 2) := by decide +kernel
theorem dX5_waitsForActivity_14 : decode cX5_waitsForActivity 14 = .ok (.if_icmp .ne 7, 3) := by decide +kernel
theorem dX5_waitsForActivity_17 : decode cX5_waitsForActivity 17 = .ok (.iconst 1, 1) := by decide +kernel
theorem dX5_waitsForActivity_18 : decode cX5_waitsForActivity 18 = .ok (.goto 4, 3) := by decide +kernel
theorem dX5_waitsForActivity_21 : decode cX5_waitsForActivity 21 = .ok (.iconst 0, 1) := by decide +kernel
theorem dX5_waitsForActivity_22 : decode cX5_waitsForActivity 22 = .ok (.ireturn, 1) := by decide +kernel
theorem dX5_wantsEvent_0 : decode cX5_wantsEvent 0 = .ok (.aload_n 0, 1) := by decide +kernel
theorem dX5_wantsEvent_1 : decode cX5_wantsEvent 1 = .ok (.getfield 91, 3) := by decide +kernel
theorem dX5_wantsEvent_4 : decode cX5_wantsEvent 4 = .ok (.ifCond .ne 15, 3) := by decide +kernel
theorem dX5_wantsEvent_7 : decode cX5_wantsEvent 7 = .ok (.aload_n 0, 1) := by decide +kernel
theorem dX5_wantsEvent_8 : decode cX5_wantsEvent 8 = .ok (.getfield 82, 3) := by decide +kernel
theorem dX5_wantsEvent_11 : decode cX5_wantsEvent 11 = .ok (.iconst (-1), 1) := by decide +kernel
theorem dX5_wantsEvent_12 : decode cX5_wantsEvent 12 = .ok (.if_icmp .eq 7, 3) := by decide +kernel
theorem dX5_wantsEvent_15 : decode cX5_wantsEvent 15 = .ok (.iconst 1, 1) := by decide +kernel
theorem dX5_wantsEvent_16 : decode cX5_wantsEvent 16 = .ok (.goto 4, 3) := by decide +kernel
theorem dX5_wantsEvent_19 : decode cX5_wantsEvent 19 = .ok (.iconst 0, 1) := by decide +kernel
theorem dX5_wantsEvent_20 : decode cX5_wantsEvent 20 = .ok (.ireturn, 1) := by decide +kernel
theorem dX8_make_0 : decode cX8_make 0 = .ok (.aload_n 1, 1) := by decide +kernel
theorem dX8_make_1 : decode cX8_make 1 = .ok (.getfield 249, 3) := by decide +kernel
theorem dX8_make_4 : decode cX8_make 4 = .ok (.getfield 364, 3) := by decide +kernel
theorem dX8_make_7 : decode cX8_make 7 = .ok (.istore_n 2, 1) := by decide +kernel
theorem dX8_make_8 : decode cX8_make 8 = .ok (.aload_n 1, 1) := by decide +kernel
theorem dX8_make_9 : decode cX8_make 9 = .ok (.getfield 249, 3) := by decide +kernel
theorem dX8_make_12 : decode cX8_make 12 = .ok (.getfield 367, 3) := by decide +kernel
theorem dX8_make_15 : decode cX8_make 15 = .ok (.lstore_n 3, 1) := by decide +kernel
theorem dX8_make_16 : decode cX8_make 16 = .ok (.aconst_null, 1) := by decide +kernel
theorem dX8_make_17 : decode cX8_make 17 = .ok (.astore 5, 2) := by decide +kernel
theorem dX8_make_19 : decode cX8_make 19 = .ok (.iload_n 2, 1) := by decide +kernel
theorem dX8_make_20 : decode cX8_make 20 = .ok (.bipush 7, 2) := by decide +kernel
theorem dX8_make_22 : decode cX8_make 22 = .ok (.if_icmp .eq 9, 3) := by decide +kernel
theorem dX8_make_25 : decode cX8_make 25 = .ok (.iload_n 2, 1) := by decide +kernel
theorem dX8_make_26 : decode cX8_make 26 = .ok (.bipush 14, 2) := by decide +kernel
theorem dX8_make_28 : decode cX8_make 28 = .ok (.if_icmp .ne 34, 3) := by decide +kernel
theorem dX8_make_31 : decode cX8_make 31 = .ok (.aload_n 0, 1) := by decide +kernel
theorem dX8_make_32 : decode cX8_make 32 = .ok (.aload_n 1, 1) := by decide +kernel
theorem dX8_make_33 : decode cX8_make 33 = .ok (.iload_n 2, 1) := by decide +kernel
theorem dX8_make_34 : decode cX8_make 34 = .ok (.lload_n 3, 1) := by decide +kernel
theorem dX8_make_35 : decode cX8_make 35 = .ok (.l2i, 1) := by decide +kernel
theorem dX8_make_36 : decode cX8_make 36 = .ok (.invokevirtual 371, 3) := by decide +kernel
theorem dX8_make_39 : decode cX8_make 39 = .ok (.astore 5, 2) := by decide +kernel
theorem dX8_make_41 : decode cX8_make 41 = .ok (.aload 5, 2) := by decide +kernel
theorem dX8_make_43 : decode cX8_make 43 = .ok (.ifnonnull 9, 3) := by decide +kernel
theorem dX8_make_46 : decode cX8_make 46 = .ok (.ldc2_w 375, 3) := by decide +kernel
theorem dX8_make_49 : decode cX8_make 49 = .ok (.goto 9, 3) := by decide +kernel
theorem dX8_make_52 : decode cX8_make 52 = .ok (.aload 5, 2) := by decide +kernel
theorem dX8_make_54 : decode cX8_make 54 = .ok (.getfield 150, 3) := by decide +kernel
theorem dX8_make_57 : decode cX8_make 57 = .ok (.i2l, 1) := by decide +kernel
theorem dX8_make_58 : decode cX8_make 58 = .ok (.lstore_n 3, 1) := by decide +kernel
theorem dX8_make_59 : decode cX8_make 59 = .ok (.goto 54, 3) := by decide +kernel
theorem dX8_make_62 : decode cX8_make 62 = .ok (.iload_n 2, 1) := by decide +kernel
theorem dX8_make_63 : decode cX8_make 63 = .ok (.iconst 1, 1) := by decide +kernel
theorem dX8_make_64 : decode cX8_make 64 = .ok (.if_icmp .eq 9, 3) := by decide +kernel
theorem dX8_make_67 : decode cX8_make 67 = .ok (.iload_n 2, 1) := by decide +kernel
theorem dX8_make_68 : decode cX8_make 68 = .ok (.bipush 11, 2) := by decide +kernel
theorem dX8_make_70 : decode cX8_make 70 = .ok (.if_icmp .ne 13, 3) := by decide +kernel
theorem dX8_make_73 : decode cX8_make 73 = .ok (.aload_n 0, 1) := by decide +kernel
theorem dX8_make_74 : decode cX8_make 74 = .ok (.aload_n 1, 1) := by decide +kernel
theorem dX8_make_75 : decode cX8_make 75 = .ok (.lload_n 3, 1) := by decide +kernel
theorem dX8_make_76 : decode cX8_make 76 = .ok (.l2i, 1) := by decide +kernel
theorem dX8_make_77 : decode cX8_make 77 = .ok (.invokevirtual 377, 3) := by decide +kernel
theorem dX8_make_80 : decode cX8_make 80 = .ok (.goto 33, 3) := by decide +kernel
theorem dX8_make_83 : decode cX8_make 83 = .ok (.iload_n 2, 1) := by decide +kernel
theorem dX8_make_84 : decode cX8_make 84 = .ok (.iconst 4, 1) := by decide +kernel
theorem dX8_make_85 : decode cX8_make 85 = .ok (.if_icmp .ne 14, 3) := by decide +kernel
theorem dX8_make_88 : decode cX8_make 88 = .ok (.aload_n 0, 1) := by decide +kernel
theorem dX8_make_89 : decode cX8_make 89 = .ok (.getfield 206, 3) := by decide +kernel
theorem dX8_make_92 : decode cX8_make 92 = .ok (.i2l, 1) := by decide +kernel
theorem dX8_make_93 : decode cX8_make 93 = .ok (.lload_n 3, 1) := by decide +kernel
theorem dX8_make_94 : decode cX8_make 94 = .ok (.ladd, 1) := by decide +kernel
theorem dX8_make_95 : decode cX8_make 95 = .ok (.lstore_n 3, 1) := by decide +kernel
theorem dX8_make_96 : decode cX8_make 96 = .ok (.goto 17, 3) := by decide +kernel
theorem dX8_make_99 : decode cX8_make 99 = .ok (.iload_n 2, 1) := by decide +kernel
theorem dX8_make_100 : decode cX8_make 100 = .ok (.bipush 9, 2) := by decide +kernel
theorem dX8_make_102 : decode cX8_make 102 = .ok (.if_icmp .ne 11, 3) := by decide +kernel
theorem dX8_make_105 : decode cX8_make 105 = .ok (.aload_n 0, 1) := by decide +kernel
theorem dX8_make_106 : decode cX8_make 106 = .ok (.lload_n 3, 1) := by decide +kernel
theorem dX8_make_107 : decode cX8_make 107 = .ok (.l2i, 1) := by decide +kernel
theorem dX8_make_108 : decode cX8_make 108 = .ok (.invokevirtual 381, 3) := by decide +kernel
theorem dX8_make_111 : decode cX8_make 111 = .ok (.i2l, 1) := by decide +kernel
theorem dX8_make_112 : decode cX8_make 112 = .ok (.lstore_n 3, 1) := by decide +kernel
theorem dX8_make_113 : decode cX8_make 113 = .ok (.aload_n 1, 1) := by decide +kernel
theorem dX8_make_114 : decode cX8_make 114 = .ok (.getfield 179, 3) := by decide +kernel
theorem dX8_make_117 : decode cX8_make 117 = .ok (.iload_n 2, 1) := by decide +kernel
theorem dX8_make_118 : decode cX8_make 118 = .ok (.lload_n 3, 1) := by decide +kernel
theorem dX8_make_119 : decode cX8_make 119 = .ok (.invokevirtual 333, 3) := by decide +kernel
theorem dX8_make_122 : decode cX8_make 122 = .ok (.iload_n 2, 1) := by decide +kernel
theorem dX8_make_123 : decode cX8_make 123 = .ok (.bipush 13, 2) := by decide +kernel
theorem dX8_make_125 : decode cX8_make 125 = .ok (.if_icmp .ne 9, 3) := by decide +kernel
theorem dX8_make_128 : decode cX8_make 128 = .ok (.aload_n 0, 1) := by decide +kernel
theorem dX8_make_129 : decode cX8_make 129 = .ok (.aload_n 1, 1) := by decide +kernel
theorem dX8_make_130 : decode cX8_make 130 = .ok (.lload_n 3, 1) := by decide +kernel
theorem dX8_make_131 : decode cX8_make 131 = .ok (.invokevirtual 384, 3) := by decide +kernel
theorem dX8_make_134 : decode cX8_make 134 = .ok (.aload 5, 2) := by decide +kernel
theorem dX8_make_136 : decode cX8_make 136 = .ok (.areturn, 1) := by decide +kernel
theorem dX8_launch_0 : decode cX8_launch 0 = .ok (.iload_n 2, 1) := by decide +kernel
theorem dX8_launch_1 : decode cX8_launch 1 = .ok (.bipush 7, 2) := by decide +kernel
theorem dX8_launch_3 : decode cX8_launch 3 = .ok (.if_icmp .ne 25, 3) := by decide +kernel
theorem dX8_launch_6 : decode cX8_launch 6 = .ok (.aload_n 0, 1) := by decide +kernel
theorem dX8_launch_7 : decode cX8_launch 7 = .ok (.aload_n 0, 1) := by decide +kernel
theorem dX8_launch_8 : decode cX8_launch 8 = .ok (.iload_n 3, 1) := by decide +kernel
theorem dX8_launch_9 : decode cX8_launch 9 = .ok (.invokevirtual 64, 3) := by decide +kernel
theorem dX8_launch_12 : decode cX8_launch 12 = .ok (.aload_n 1, 1) := by decide +kernel
theorem dX8_launch_13 : decode cX8_launch 13 = .ok (.getfield 249, 3) := by decide +kernel
theorem dX8_launch_16 : decode cX8_launch 16 = .ok (.getfield 295, 3) := by decide +kernel
theorem dX8_launch_19 : decode cX8_launch 19 = .ok (.aload_n 1, 1) := by decide +kernel
theorem dX8_launch_20 : decode cX8_launch 20 = .ok (.getfield 150, 3) := by decide +kernel
theorem dX8_launch_23 : decode cX8_launch 23 = .ok (.iconst (-1), 1) := by decide +kernel
theorem dX8_launch_24 : decode cX8_launch 24 = .ok (.invokevirtual 141, 3) := by decide +kernel
theorem dX8_launch_27 : decode cX8_launch 27 = .ok (.areturn, 1) := by decide +kernel
theorem dX8_launch_28 : decode cX8_launch 28 = .ok (.iload_n 3, 1) := by decide +kernel
theorem dX8_launch_29 : decode cX8_launch 29 = .ok (.iconst (-1), 1) := by decide +kernel
theorem dX8_launch_30 : decode cX8_launch 30 = .ok (.if_icmp .eq 22, 3) := by decide +kernel
theorem dX8_launch_33 : decode cX8_launch 33 = .ok (.aload_n 0, 1) := by decide +kernel
theorem dX8_launch_34 : decode cX8_launch 34 = .ok (.aload_n 0, 1) := by decide +kernel
theorem dX8_launch_35 : decode cX8_launch 35 = .ok (.iload_n 3, 1) := by decide +kernel
theorem dX8_launch_36 : decode cX8_launch 36 = .ok (.invokevirtual 64, 3) := by decide +kernel
theorem dX8_launch_39 : decode cX8_launch 39 = .ok (.aload_n 1, 1) := by decide +kernel
theorem dX8_launch_40 : decode cX8_launch 40 = .ok (.getfield 249, 3) := by decide +kernel
theorem dX8_launch_43 : decode cX8_launch 43 = .ok (.getfield 295, 3) := by decide +kernel
theorem dX8_launch_46 : decode cX8_launch 46 = .ok (.iconst (-1), 1) := by decide +kernel
theorem dX8_launch_47 : decode cX8_launch 47 = .ok (.iconst (-1), 1) := by decide +kernel
theorem dX8_launch_48 : decode cX8_launch 48 = .ok (.invokevirtual 141, 3) := by decide +kernel
theorem dX8_launch_51 : decode cX8_launch 51 = .ok (.areturn, 1) := by decide +kernel
theorem dX8_launch_52 : decode cX8_launch 52 = .ok (.aload_n 0, 1) := by decide +kernel
theorem dX8_launch_53 : decode cX8_launch 53 = .ok (.aload_n 1, 1) := by decide +kernel
theorem dX8_launch_54 : decode cX8_launch 54 = .ok (.getfield 103, 3) := by decide +kernel
theorem dX8_launch_57 : decode cX8_launch 57 = .ok (.aload_n 1, 1) := by decide +kernel
theorem dX8_launch_58 : decode cX8_launch 58 = .ok (.getfield 249, 3) := by decide +kernel
theorem dX8_launch_61 : decode cX8_launch 61 = .ok (.getfield 295, 3) := by decide +kernel
theorem dX8_launch_64 : decode cX8_launch 64 = .ok (.aload_n 1, 1) := by decide +kernel
theorem dX8_launch_65 : decode cX8_launch 65 = .ok (.getfield 259, 3) := by decide +kernel
theorem dX8_launch_68 : decode cX8_launch 68 = .ok (.aload_n 1, 1) := by decide +kernel
theorem dX8_launch_69 : decode cX8_launch 69 = .ok (.getfield 406, 3) := by decide +kernel
theorem dX8_launch_72 : decode cX8_launch 72 = .ok (.invokevirtual 141, 3) := by decide +kernel
theorem dX8_launch_75 : decode cX8_launch 75 = .ok (.astore 4, 2) := by decide +kernel
theorem dX8_launch_77 : decode cX8_launch 77 = .ok (.aload 4, 2) := by decide +kernel
theorem dX8_launch_79 : decode cX8_launch 79 = .ok (.ifnull 12, 3) := by decide +kernel
theorem dX8_launch_82 : decode cX8_launch 82 = .ok (.aload_n 1, 1) := by decide +kernel
theorem dX8_launch_83 : decode cX8_launch 83 = .ok (.aload 4, 2) := by decide +kernel
theorem dX8_launch_85 : decode cX8_launch 85 = .ok (.getfield 150, 3) := by decide +kernel
theorem dX8_launch_88 : decode cX8_launch 88 = .ok (.putfield 403, 3) := by decide +kernel
theorem dX8_launch_91 : decode cX8_launch 91 = .ok (.aload 4, 2) := by decide +kernel
theorem dX8_launch_93 : decode cX8_launch 93 = .ok (.areturn, 1) := by decide +kernel
theorem dX8_programAt_0 : decode cX8_programAt 0 = .ok (.iload_n 1, 1) := by decide +kernel
theorem dX8_programAt_1 : decode cX8_programAt 1 = .ok (.ifCond .lt 21, 3) := by decide +kernel
theorem dX8_programAt_4 : decode cX8_programAt 4 = .ok (.iload_n 1, 1) := by decide +kernel
theorem dX8_programAt_5 : decode cX8_programAt 5 = .ok (.aload_n 0, 1) := by decide +kernel
theorem dX8_programAt_6 : decode cX8_programAt 6 = .ok (.getfield 11, 3) := by decide +kernel
theorem dX8_programAt_9 : decode cX8_programAt 9 = .ok (.arraylength, 1) := by decide +kernel
theorem dX8_programAt_10 : decode cX8_programAt 10 = .ok (.if_icmp .ge 12, 3) := by decide +kernel
theorem dX8_programAt_13 : decode cX8_programAt 13 = .ok (.aload_n 0, 1) := by decide +kernel
theorem dX8_programAt_14 : decode cX8_programAt 14 = .ok (.getfield 11, 3) := by decide +kernel
theorem dX8_programAt_17 : decode cX8_programAt 17 = .ok (.iload_n 1, 1) := by decide +kernel
theorem dX8_programAt_18 : decode cX8_programAt 18 = .ok (.aaload, 1) := by decide +kernel
theorem dX8_programAt_19 : decode cX8_programAt 19 = .ok (.goto 4, 3) := by decide +kernel
theorem dX8_programAt_22 : decode cX8_programAt 22 = .ok (.aconst_null, 1) := by decide +kernel
theorem dX8_programAt_23 : decode cX8_programAt 23 = .ok (.areturn, 1) := by decide +kernel
theorem dX8_open_0 : decode cX8_open 0 = .ok (.aload_n 1, 1) := by decide +kernel
theorem dX8_open_1 : decode cX8_open 1 = .ok (.ifnull 22, 3) := by decide +kernel
theorem dX8_open_4 : decode cX8_open 4 = .ok (.aload_n 0, 1) := by decide +kernel
theorem dX8_open_5 : decode cX8_open 5 = .ok (.getfield 96, 3) := by decide +kernel
theorem dX8_open_8 : decode cX8_open 8 = .ok (.ifCond .lt 15, 3) := by decide +kernel
theorem dX8_open_11 : decode cX8_open 11 = .ok (.aload_n 0, 1) := by decide +kernel
theorem dX8_open_12 : decode cX8_open 12 = .ok (.getfield 96, 3) := by decide +kernel
theorem dX8_open_15 : decode cX8_open 15 = .ok (.aload_n 0, 1) := by decide +kernel
theorem dX8_open_16 : decode cX8_open 16 = .ok (.getfield 21, 3) := by decide +kernel
theorem dX8_open_19 : decode cX8_open 19 = .ok (.arraylength, 1) := by decide +kernel
theorem dX8_open_20 : decode cX8_open 20 = .ok (.if_icmp .lt 5, 3) := by decide +kernel
theorem dX8_open_23 : decode cX8_open 23 = .ok (.aconst_null, 1) := by decide +kernel
theorem dX8_open_24 : decode cX8_open 24 = .ok (.areturn, 1) := by decide +kernel
theorem dX8_open_25 : decode cX8_open 25 = .ok (.aload_n 0, 1) := by decide +kernel
theorem dX8_open_26 : decode cX8_open 26 = .ok (.getfield 21, 3) := by decide +kernel
theorem dX8_open_29 : decode cX8_open 29 = .ok (.aload_n 0, 1) := by decide +kernel
theorem dX8_open_30 : decode cX8_open 30 = .ok (.getfield 96, 3) := by decide +kernel
theorem dX8_open_33 : decode cX8_open 33 = .ok (.aaload, 1) := by decide +kernel
theorem dX8_open_34 : decode cX8_open 34 = .ok (.astore 5, 2) := by decide +kernel
theorem dX8_open_36 : decode cX8_open 36 = .ok (.aload 5, 2) := by decide +kernel
theorem dX8_open_38 : decode cX8_open 38 = .ok (.ifnonnull 5, 3) := by decide +kernel
theorem dX8_open_41 : decode cX8_open 41 = .ok (.aconst_null, 1) := by decide +kernel
theorem dX8_open_42 : decode cX8_open 42 = .ok (.areturn, 1) := by decide +kernel
theorem dX8_open_43 : decode cX8_open 43 = .ok (.aload_n 0, 1) := by decide +kernel
theorem dX8_open_44 : decode cX8_open 44 = .ok (.dup, 1) := by decide +kernel
theorem dX8_open_45 : decode cX8_open 45 = .ok (.getfield 96, 3) := by decide +kernel
theorem dX8_open_48 : decode cX8_open 48 = .ok (.iconst 1, 1) := by decide +kernel
theorem dX8_open_49 : decode cX8_open 49 = .ok (.iadd, 1) := by decide +kernel
theorem dX8_open_50 : decode cX8_open 50 = .ok (.putfield 96, 3) := by decide +kernel
theorem dX8_open_53 : decode cX8_open 53 = .ok (.aload 5, 2) := by decide +kernel
theorem dX8_open_55 : decode cX8_open 55 = .ok (.aload_n 1, 1) := by decide +kernel
theorem dX8_open_56 : decode cX8_open 56 = .ok (.putfield 103, 3) := by decide +kernel
theorem dX8_open_59 : decode cX8_open 59 = .ok (.aload 5, 2) := by decide +kernel
theorem dX8_open_61 : decode cX8_open 61 = .ok (.iload_n 3, 1) := by decide +kernel
theorem dX8_open_62 : decode cX8_open 62 = .ok (.putfield 259, 3) := by decide +kernel
theorem dX8_open_65 : decode cX8_open 65 = .ok (.aload 5, 2) := by decide +kernel
theorem dX8_open_67 : decode cX8_open 67 = .ok (.iload 4, 2) := by decide +kernel
theorem dX8_open_69 : decode cX8_open 69 = .ok (.iconst (-1), 1) := by decide +kernel
theorem dX8_open_70 : decode cX8_open 70 = .ok (.if_icmp .ne 11, 3) := by decide +kernel
theorem dX8_open_73 : decode cX8_open 73 = .ok (.aload 5, 2) := by decide +kernel
theorem dX8_open_75 : decode cX8_open 75 = .ok (.getfield 150, 3) := by decide +kernel
theorem dX8_open_78 : decode cX8_open 78 = .ok (.goto 5, 3) := by decide +kernel
theorem dX8_open_81 : decode cX8_open 81 = .ok (.iload 4, 2) := by decide +kernel
theorem dX8_open_83 : decode cX8_open 83 = .ok (.putfield 406, 3) := by decide +kernel
theorem dX8_open_86 : decode cX8_open 86 = .ok (.aload 5, 2) := by decide +kernel
theorem dX8_open_88 : decode cX8_open 88 = .ok (.getfield 179, 3) := by decide +kernel
theorem dX8_open_91 : decode cX8_open 91 = .ok (.iconst 0, 1) := by decide +kernel
theorem dX8_open_92 : decode cX8_open 92 = .ok (.iload_n 2, 1) := by decide +kernel
theorem dX8_open_93 : decode cX8_open 93 = .ok (.i2l, 1) := by decide +kernel
theorem dX8_open_94 : decode cX8_open 94 = .ok (.invokevirtual 333, 3) := by decide +kernel
theorem dX8_open_97 : decode cX8_open 97 = .ok (.aload 5, 2) := by decide +kernel
theorem dX8_open_99 : decode cX8_open 99 = .ok (.getfield 249, 3) := by decide +kernel
theorem dX8_open_102 : decode cX8_open 102 = .ok (.aload_n 1, 1) := by decide +kernel
theorem dX8_open_103 : decode cX8_open 103 = .ok (.aload 5, 2) := by decide +kernel
theorem dX8_open_105 : decode cX8_open 105 = .ok (.getfield 179, 3) := by decide +kernel
theorem dX8_open_108 : decode cX8_open 108 = .ok (.invokevirtual 286, 3) := by decide +kernel
theorem dX8_open_111 : decode cX8_open 111 = .ok (.aload 5, 2) := by decide +kernel
theorem dX8_open_113 : decode cX8_open 113 = .ok (.areturn, 1) := by decide +kernel
theorem dX8_schedule_0 : decode cX8_schedule 0 = .ok (.new 210, 3) := by decide +kernel
theorem dX8_schedule_3 : decode cX8_schedule 3 = .ok (.dup, 1) := by decide +kernel
theorem dX8_schedule_4 : decode cX8_schedule 4 = .ok (.aload_n 0, 1) := by decide +kernel
theorem dX8_schedule_5 : decode cX8_schedule 5 = .ok (.getfield 28, 3) := by decide +kernel
theorem dX8_schedule_8 : decode cX8_schedule 8 = .ok (.invokevirtual 264, 3) := by decide +kernel
theorem dX8_schedule_11 : decode cX8_schedule 11 = .ok (.aload_n 1, 1) := by decide +kernel
theorem dX8_schedule_12 : decode cX8_schedule 12 = .ok (.iload_n 2, 1) := by decide +kernel
theorem dX8_schedule_13 : decode cX8_schedule 13 = .ok (.invokespecial 411, 3) := by decide +kernel
theorem dX8_schedule_16 : decode cX8_schedule 16 = .ok (.astore_n 3, 1) := by decide +kernel
theorem dX8_schedule_17 : decode cX8_schedule 17 = .ok (.aload_n 0, 1) := by decide +kernel
theorem dX8_schedule_18 : decode cX8_schedule 18 = .ok (.getfield 28, 3) := by decide +kernel
theorem dX8_schedule_21 : decode cX8_schedule 21 = .ok (.aload_n 3, 1) := by decide +kernel
theorem dX8_schedule_22 : decode cX8_schedule 22 = .ok (.invokevirtual 414, 3) := by decide +kernel
theorem dX8_schedule_25 : decode cX8_schedule 25 = .ok (.pop, 1) := by decide +kernel
theorem dX8_schedule_26 : decode cX8_schedule 26 = .ok (.aload_n 1, 1) := by decide +kernel
theorem dX8_schedule_27 : decode cX8_schedule 27 = .ok (.aload_n 3, 1) := by decide +kernel
theorem dX8_schedule_28 : decode cX8_schedule 28 = .ok (.putfield 276, 3) := by decide +kernel
theorem dX8_schedule_31 : decode cX8_schedule 31 = .ok (.return_, 1) := by decide +kernel
theorem dJx4a65c_size_8abf5_0 : decode cJx4a65c_size_8abf5 0 = .ok (.aload_n 0, 1) := by decide +kernel
theorem dJx4a65c_size_8abf5_1 : decode cJx4a65c_size_8abf5 1 = .ok (.getfield 48, 3) := by decide +kernel
theorem dJx4a65c_size_8abf5_4 : decode cJx4a65c_size_8abf5 4 = .ok (.ireturn, 1) := by decide +kernel
theorem dX7_init_0 : decode cX7_init 0 = .ok (.aload_n 0, 1) := by decide +kernel
theorem dX7_init_1 : decode cX7_init 1 = .ok (.invokespecial 3, 3) := by decide +kernel
theorem dX7_init_4 : decode cX7_init 4 = .ok (.aload_n 0, 1) := by decide +kernel
theorem dX7_init_5 : decode cX7_init 5 = .ok (.iconst 0, 1) := by decide +kernel
theorem dX7_init_6 : decode cX7_init 6 = .ok (.putfield 9, 3) := by decide +kernel
theorem dX7_init_9 : decode cX7_init 9 = .ok (.aload_n 0, 1) := by decide +kernel
theorem dX7_init_10 : decode cX7_init 10 = .ok (.iload_n 1, 1) := by decide +kernel
theorem dX7_init_11 : decode cX7_init 11 = .ok (.putfield 15, 3) := by decide +kernel
theorem dX7_init_14 : decode cX7_init 14 = .ok (.aload_n 0, 1) := by decide +kernel
theorem dX7_init_15 : decode cX7_init 15 = .ok (.aload_n 2, 1) := by decide +kernel
theorem dX7_init_16 : decode cX7_init 16 = .ok (.putfield 18, 3) := by decide +kernel
theorem dX7_init_19 : decode cX7_init 19 = .ok (.aload_n 0, 1) := by decide +kernel
theorem dX7_init_20 : decode cX7_init 20 = .ok (.iload_n 3, 1) := by decide +kernel
theorem dX7_init_21 : decode cX7_init 21 = .ok (.putfield 22, 3) := by decide +kernel
theorem dX7_init_24 : decode cX7_init 24 = .ok (.return_, 1) := by decide +kernel
theorem dJx4a65c_add_9ea2d_0 : decode cJx4a65c_add_9ea2d 0 = .ok (.aload_n 0, 1) := by decide +kernel
theorem dJx4a65c_add_9ea2d_1 : decode cJx4a65c_add_9ea2d 1 = .ok (.dup, 1) := by decide +kernel
theorem dJx4a65c_add_9ea2d_2 : decode cJx4a65c_add_9ea2d 2 = .ok (.getfield 63, 3) := by decide +kernel
theorem dJx4a65c_add_9ea2d_5 : decode cJx4a65c_add_9ea2d 5 = .ok (.iconst 1, 1) := by decide +kernel
theorem dJx4a65c_add_9ea2d_6 : decode cJx4a65c_add_9ea2d 6 = .ok (.iadd, 1) := by decide +kernel
theorem dJx4a65c_add_9ea2d_7 : decode cJx4a65c_add_9ea2d 7 = .ok (.putfield 63, 3) := by decide +kernel
theorem dJx4a65c_add_9ea2d_10 : decode cJx4a65c_add_9ea2d 10 = .ok (.aload_n 0, 1) := by decide +kernel
theorem dJx4a65c_add_9ea2d_11 : decode cJx4a65c_add_9ea2d 11 = .ok (.aload_n 1, 1) := by decide +kernel
theorem dJx4a65c_add_9ea2d_12 : decode cJx4a65c_add_9ea2d 12 = .ok (.aload_n 0, 1) := by decide +kernel
theorem dJx4a65c_add_9ea2d_13 : decode cJx4a65c_add_9ea2d 13 = .ok (.getfield 9, 3) := by decide +kernel
theorem dJx4a65c_add_9ea2d_16 : decode cJx4a65c_add_9ea2d 16 = .ok (.aload_n 0, 1) := by decide +kernel
theorem dJx4a65c_add_9ea2d_17 : decode cJx4a65c_add_9ea2d 17 = .ok (.getfield 48, 3) := by decide +kernel
theorem dJx4a65c_add_9ea2d_20 : decode cJx4a65c_add_9ea2d 20 = .ok (.invokevirtual 131, 3) := by decide +kernel
theorem dJx4a65c_add_9ea2d_23 : decode cJx4a65c_add_9ea2d 23 = .ok (.iconst 1, 1) := by decide +kernel
theorem dJx4a65c_add_9ea2d_24 : decode cJx4a65c_add_9ea2d 24 = .ok (.ireturn, 1) := by decide +kernel
theorem dJx4a65c_add_72be8_0 : decode cJx4a65c_add_72be8 0 = .ok (.iload_n 3, 1) := by decide +kernel
theorem dJx4a65c_add_72be8_1 : decode cJx4a65c_add_72be8 1 = .ok (.aload_n 2, 1) := by decide +kernel
theorem dJx4a65c_add_72be8_2 : decode cJx4a65c_add_72be8 2 = .ok (.arraylength, 1) := by decide +kernel
theorem dJx4a65c_add_72be8_3 : decode cJx4a65c_add_72be8 3 = .ok (.if_icmp .ne 8, 3) := by decide +kernel
theorem dJx4a65c_add_72be8_6 : decode cJx4a65c_add_72be8 6 = .ok (.aload_n 0, 1) := by decide +kernel
theorem dJx4a65c_add_72be8_7 : decode cJx4a65c_add_72be8 7 = .ok (.invokevirtual 129, 3) := by decide +kernel
theorem dJx4a65c_add_72be8_10 : decode cJx4a65c_add_72be8 10 = .ok (.astore_n 2, 1) := by decide +kernel
theorem dJx4a65c_add_72be8_11 : decode cJx4a65c_add_72be8 11 = .ok (.aload_n 2, 1) := by decide +kernel
theorem dJx4a65c_add_72be8_12 : decode cJx4a65c_add_72be8 12 = .ok (.iload_n 3, 1) := by decide +kernel
theorem dJx4a65c_add_72be8_13 : decode cJx4a65c_add_72be8 13 = .ok (.aload_n 1, 1) := by decide +kernel
theorem dJx4a65c_add_72be8_14 : decode cJx4a65c_add_72be8 14 = .ok (.aastore, 1) := by decide +kernel
theorem dJx4a65c_add_72be8_15 : decode cJx4a65c_add_72be8 15 = .ok (.aload_n 0, 1) := by decide +kernel
theorem dJx4a65c_add_72be8_16 : decode cJx4a65c_add_72be8 16 = .ok (.iload_n 3, 1) := by decide +kernel
theorem dJx4a65c_add_72be8_17 : decode cJx4a65c_add_72be8 17 = .ok (.iconst 1, 1) := by decide +kernel
theorem dJx4a65c_add_72be8_18 : decode cJx4a65c_add_72be8 18 = .ok (.iadd, 1) := by decide +kernel
theorem dJx4a65c_add_72be8_19 : decode cJx4a65c_add_72be8 19 = .ok (.putfield 48, 3) := by decide +kernel
theorem dJx4a65c_add_72be8_22 : decode cJx4a65c_add_72be8 22 = .ok (.return_, 1) := by decide +kernel
theorem dJx4a65c_grow_d5877_0 : decode cJx4a65c_grow_d5877 0 = .ok (.aload_n 0, 1) := by decide +kernel
theorem dJx4a65c_grow_d5877_1 : decode cJx4a65c_grow_d5877 1 = .ok (.aload_n 0, 1) := by decide +kernel
theorem dJx4a65c_grow_d5877_2 : decode cJx4a65c_grow_d5877 2 = .ok (.getfield 48, 3) := by decide +kernel
theorem dJx4a65c_grow_d5877_5 : decode cJx4a65c_grow_d5877 5 = .ok (.iconst 1, 1) := by decide +kernel
theorem dJx4a65c_grow_d5877_6 : decode cJx4a65c_grow_d5877 6 = .ok (.iadd, 1) := by decide +kernel
theorem dJx4a65c_grow_d5877_7 : decode cJx4a65c_grow_d5877 7 = .ok (.invokevirtual 69, 3) := by decide +kernel
theorem dJx4a65c_grow_d5877_10 : decode cJx4a65c_grow_d5877 10 = .ok (.areturn, 1) := by decide +kernel
theorem dJx4a65c_grow_92f84_0 : decode cJx4a65c_grow_92f84 0 = .ok (.aload_n 0, 1) := by decide +kernel
theorem dJx4a65c_grow_92f84_1 : decode cJx4a65c_grow_92f84 1 = .ok (.getfield 9, 3) := by decide +kernel
theorem dJx4a65c_grow_92f84_4 : decode cJx4a65c_grow_92f84 4 = .ok (.arraylength, 1) := by decide +kernel
theorem dJx4a65c_grow_92f84_5 : decode cJx4a65c_grow_92f84 5 = .ok (.istore_n 2, 1) := by decide +kernel
theorem dJx4a65c_grow_92f84_6 : decode cJx4a65c_grow_92f84 6 = .ok (.iload_n 2, 1) := by decide +kernel
theorem dJx4a65c_grow_92f84_7 : decode cJx4a65c_grow_92f84 7 = .ok (.ifCond .gt 13, 3) := by decide +kernel
theorem dJx4a65c_grow_92f84_10 : decode cJx4a65c_grow_92f84 10 = .ok (.aload_n 0, 1) := by decide +kernel
theorem dJx4a65c_grow_92f84_11 : decode cJx4a65c_grow_92f84 11 = .ok (.getfield 9, 3) := by decide +kernel
theorem dJx4a65c_grow_92f84_14 : decode cJx4a65c_grow_92f84 14 = .ok (.getstatic 39, 3) := by decide +kernel
theorem dJx4a65c_grow_92f84_17 : decode cJx4a65c_grow_92f84 17 = .ok (.if_acmp .eq 28, 3) := by decide +kernel
theorem dJx4a65c_grow_92f84_20 : decode cJx4a65c_grow_92f84 20 = .ok (.iload_n 2, 1) := by decide +kernel
theorem dJx4a65c_grow_92f84_21 : decode cJx4a65c_grow_92f84 21 = .ok (.iload_n 1, 1) := by decide +kernel
theorem dJx4a65c_grow_92f84_22 : decode cJx4a65c_grow_92f84 22 = .ok (.iload_n 2, 1) := by decide +kernel
theorem dJx4a65c_grow_92f84_23 : decode cJx4a65c_grow_92f84 23 = .ok (.isub, 1) := by decide +kernel
theorem dJx4a65c_grow_92f84_24 : decode cJx4a65c_grow_92f84 24 = .ok (.iload_n 2, 1) := by decide +kernel
theorem dJx4a65c_grow_92f84_25 : decode cJx4a65c_grow_92f84 25 = .ok (.iconst 1, 1) := by decide +kernel
theorem dJx4a65c_grow_92f84_26 : decode cJx4a65c_grow_92f84 26 = .ok (.ishr, 1) := by decide +kernel
theorem dJx4a65c_grow_92f84_27 : decode cJx4a65c_grow_92f84 27 = .ok (.invokestatic 73, 3) := by decide +kernel
theorem dJx4a65c_grow_92f84_30 : decode cJx4a65c_grow_92f84 30 = .ok (.istore_n 3, 1) := by decide +kernel
theorem dJx4a65c_grow_92f84_31 : decode cJx4a65c_grow_92f84 31 = .ok (.aload_n 0, 1) := by decide +kernel
theorem dJx4a65c_grow_92f84_32 : decode cJx4a65c_grow_92f84 32 = .ok (.aload_n 0, 1) := by decide +kernel
theorem dJx4a65c_grow_92f84_33 : decode cJx4a65c_grow_92f84 33 = .ok (.getfield 9, 3) := by decide +kernel
theorem dJx4a65c_grow_92f84_36 : decode cJx4a65c_grow_92f84 36 = .ok (.iload_n 3, 1) := by decide +kernel
theorem dJx4a65c_grow_92f84_37 : decode cJx4a65c_grow_92f84 37 = .ok (.invokestatic 66, 3) := by decide +kernel
theorem dJx4a65c_grow_92f84_40 : decode cJx4a65c_grow_92f84 40 = .ok (.dup_x1, 1) := by decide +kernel
theorem dJx4a65c_grow_92f84_41 : decode cJx4a65c_grow_92f84 41 = .ok (.putfield 9, 3) := by decide +kernel
theorem dJx4a65c_grow_92f84_44 : decode cJx4a65c_grow_92f84 44 = .ok (.areturn, 1) := by decide +kernel
theorem dJx4a65c_grow_92f84_45 : decode cJx4a65c_grow_92f84 45 = .ok (.aload_n 0, 1) := by decide +kernel
theorem dJx4a65c_grow_92f84_46 : decode cJx4a65c_grow_92f84 46 = .ok (.bipush 10, 2) := by decide +kernel
theorem dJx4a65c_grow_92f84_48 : decode cJx4a65c_grow_92f84 48 = .ok (.iload_n 1, 1) := by decide +kernel
theorem dJx4a65c_grow_92f84_49 : decode cJx4a65c_grow_92f84 49 = .ok (.invokestatic 79, 3) := by decide +kernel
theorem dJx4a65c_grow_92f84_52 : decode cJx4a65c_grow_92f84 52 = .ok (.anewarray 7, 3) := by decide +kernel
theorem dJx4a65c_grow_92f84_55 : decode cJx4a65c_grow_92f84 55 = .ok (.dup_x1, 1) := by decide +kernel
theorem dJx4a65c_grow_92f84_56 : decode cJx4a65c_grow_92f84 56 = .ok (.putfield 9, 3) := by decide +kernel
theorem dJx4a65c_grow_92f84_59 : decode cJx4a65c_grow_92f84 59 = .ok (.areturn, 1) := by decide +kernel
theorem dJ8_newLength_cabcc_0 : decode cJ8_newLength_cabcc 0 = .ok (.iload_n 0, 1) := by decide +kernel
theorem dJ8_newLength_cabcc_1 : decode cJ8_newLength_cabcc 1 = .ok (.iload_n 1, 1) := by decide +kernel
theorem dJ8_newLength_cabcc_2 : decode cJ8_newLength_cabcc 2 = .ok (.iload_n 2, 1) := by decide +kernel
theorem dJ8_newLength_cabcc_3 : decode cJ8_newLength_cabcc 3 = .ok (.invokestatic 194, 3) := by decide +kernel
theorem dJ8_newLength_cabcc_6 : decode cJ8_newLength_cabcc 6 = .ok (.iadd, 1) := by decide +kernel
theorem dJ8_newLength_cabcc_7 : decode cJ8_newLength_cabcc 7 = .ok (.istore_n 3, 1) := by decide +kernel
theorem dJ8_newLength_cabcc_8 : decode cJ8_newLength_cabcc 8 = .ok (.iconst 0, 1) := by decide +kernel
theorem dJ8_newLength_cabcc_9 : decode cJ8_newLength_cabcc 9 = .ok (.iload_n 3, 1) := by decide +kernel
theorem dJ8_newLength_cabcc_10 : decode cJ8_newLength_cabcc 10 = .ok (.if_icmp .ge 11, 3) := by decide +kernel
theorem dJ8_newLength_cabcc_13 : decode cJ8_newLength_cabcc 13 = .ok (.iload_n 3, 1) := by decide +kernel
theorem dJ8_newLength_cabcc_14 : decode cJ8_newLength_cabcc 14 = .ok (.ldc 200, 2) := by decide +kernel
theorem dJ8_newLength_cabcc_16 : decode cJ8_newLength_cabcc 16 = .ok (.if_icmp .gt 5, 3) := by decide +kernel
theorem dJ8_newLength_cabcc_19 : decode cJ8_newLength_cabcc 19 = .ok (.iload_n 3, 1) := by decide +kernel
theorem dJ8_newLength_cabcc_20 : decode cJ8_newLength_cabcc 20 = .ok (.ireturn, 1) := by decide +kernel
theorem dJ8_newLength_cabcc_21 : decode cJ8_newLength_cabcc 21 = .ok (.iload_n 0, 1) := by decide +kernel
theorem dJ8_newLength_cabcc_22 : decode cJ8_newLength_cabcc 22 = .ok (.iload_n 1, 1) := by decide +kernel
theorem dJ8_newLength_cabcc_23 : decode cJ8_newLength_cabcc 23 = .ok (.invokestatic 201, 3) := by decide +kernel
theorem dJ8_newLength_cabcc_26 : decode cJ8_newLength_cabcc 26 = .ok (.ireturn, 1) := by decide +kernel
theorem dJ8_hugeLength_7cf53_0 : decode cJ8_hugeLength_7cf53 0 = .ok (.iload_n 0, 1) := by decide +kernel
theorem dJ8_hugeLength_7cf53_1 : decode cJ8_hugeLength_7cf53 1 = .ok (.iload_n 1, 1) := by decide +kernel
theorem dJ8_hugeLength_7cf53_2 : decode cJ8_hugeLength_7cf53 2 = .ok (.iadd, 1) := by decide +kernel
theorem dJ8_hugeLength_7cf53_3 : decode cJ8_hugeLength_7cf53 3 = .ok (.istore_n 2, 1) := by decide +kernel
theorem dJ8_hugeLength_7cf53_4 : decode cJ8_hugeLength_7cf53 4 = .ok (.iload_n 2, 1) := by decide +kernel
theorem dJ8_hugeLength_7cf53_5 : decode cJ8_hugeLength_7cf53 5 = .ok (.ifCond .ge 44, 3) := by decide +kernel
theorem dJ8_hugeLength_7cf53_8 : decode cJ8_hugeLength_7cf53 8 = .ok (.new 204, 3) := by decide +kernel
theorem dJ8_hugeLength_7cf53_11 : decode cJ8_hugeLength_7cf53 11 = .ok (.dup, 1) := by decide +kernel
theorem dJ8_hugeLength_7cf53_12 : decode cJ8_hugeLength_7cf53 12 = .ok (.new 89, 3) := by decide +kernel
theorem dJ8_hugeLength_7cf53_15 : decode cJ8_hugeLength_7cf53 15 = .ok (.dup, 1) := by decide +kernel
theorem dJ8_hugeLength_7cf53_16 : decode cJ8_hugeLength_7cf53 16 = .ok (.invokespecial 91, 3) := by decide +kernel
theorem dJ8_hugeLength_7cf53_19 : decode cJ8_hugeLength_7cf53 19 = .ok (.ldc 206, 2) := by decide +kernel
theorem dJ8_hugeLength_7cf53_21 : decode cJ8_hugeLength_7cf53 21 = .ok (.invokevirtual 94, 3) := by decide +kernel
theorem dJ8_hugeLength_7cf53_24 : decode cJ8_hugeLength_7cf53 24 = .ok (.iload_n 0, 1) := by decide +kernel
theorem dJ8_hugeLength_7cf53_25 : decode cJ8_hugeLength_7cf53 25 = .ok (.invokevirtual 98, 3) := by decide +kernel
theorem dJ8_hugeLength_7cf53_28 : decode cJ8_hugeLength_7cf53 28 = .ok (.ldc 208, 2) := by decide +kernel
theorem dJ8_hugeLength_7cf53_30 : decode cJ8_hugeLength_7cf53 30 = .ok (.invokevirtual 94, 3) := by decide +kernel
theorem dJ8_hugeLength_7cf53_33 : decode cJ8_hugeLength_7cf53 33 = .ok (.iload_n 1, 1) := by decide +kernel
theorem dJ8_hugeLength_7cf53_34 : decode cJ8_hugeLength_7cf53 34 = .ok (.invokevirtual 98, 3) := by decide +kernel
theorem dJ8_hugeLength_7cf53_37 : decode cJ8_hugeLength_7cf53 37 = .ok (.ldc 210, 2) := by decide +kernel
theorem dJ8_hugeLength_7cf53_39 : decode cJ8_hugeLength_7cf53 39 = .ok (.invokevirtual 94, 3) := by decide +kernel
theorem dJ8_hugeLength_7cf53_42 : decode cJ8_hugeLength_7cf53 42 = .ok (.invokevirtual 101, 3) := by decide +kernel
theorem dJ8_hugeLength_7cf53_45 : decode cJ8_hugeLength_7cf53 45 = .ok (.invokespecial 212, 3) := by decide +kernel
theorem dJ8_hugeLength_7cf53_48 : decode cJ8_hugeLength_7cf53 48 = .ok (.athrow, 1) := by decide +kernel
theorem dJ8_hugeLength_7cf53_49 : decode cJ8_hugeLength_7cf53 49 = .ok (.iload_n 2, 1) := by decide +kernel
theorem dJ8_hugeLength_7cf53_50 : decode cJ8_hugeLength_7cf53 50 = .ok (.ldc 200, 2) := by decide +kernel
theorem dJ8_hugeLength_7cf53_52 : decode cJ8_hugeLength_7cf53 52 = .ok (.if_icmp .gt 6, 3) := by decide +kernel
theorem dJ8_hugeLength_7cf53_55 : decode cJ8_hugeLength_7cf53 55 = .ok (.ldc 200, 2) := by decide +kernel
theorem dJ8_hugeLength_7cf53_57 : decode cJ8_hugeLength_7cf53 57 = .ok (.ireturn, 1) := by decide +kernel
theorem dJ8_hugeLength_7cf53_58 : decode cJ8_hugeLength_7cf53 58 = .ok (.iload_n 2, 1) := by decide +kernel
theorem dJ8_hugeLength_7cf53_59 : decode cJ8_hugeLength_7cf53 59 = .ok (.ireturn, 1) := by decide +kernel
theorem dJ7_copyOf_1904c_0 : decode cJ7_copyOf_1904c 0 = .ok (.aload_n 0, 1) := by decide +kernel
theorem dJ7_copyOf_1904c_1 : decode cJ7_copyOf_1904c 1 = .ok (.iload_n 1, 1) := by decide +kernel
theorem dJ7_copyOf_1904c_2 : decode cJ7_copyOf_1904c 2 = .ok (.aload_n 0, 1) := by decide +kernel
theorem dJ7_copyOf_1904c_3 : decode cJ7_copyOf_1904c 3 = .ok (.invokevirtual 86, 3) := by decide +kernel
theorem dJ7_copyOf_1904c_6 : decode cJ7_copyOf_1904c 6 = .ok (.invokestatic 300, 3) := by decide +kernel
theorem dJ7_copyOf_1904c_9 : decode cJ7_copyOf_1904c 9 = .ok (.areturn, 1) := by decide +kernel
theorem dJ7_copyOf_6403c_0 : decode cJ7_copyOf_6403c 0 = .ok (.aload_n 2, 1) := by decide +kernel
theorem dJ7_copyOf_6403c_1 : decode cJ7_copyOf_6403c 1 = .ok (.ldc 110, 2) := by decide +kernel
theorem dJ7_copyOf_6403c_3 : decode cJ7_copyOf_6403c 3 = .ok (.if_acmp .ne 10, 3) := by decide +kernel
theorem dJ7_copyOf_6403c_6 : decode cJ7_copyOf_6403c 6 = .ok (.iload_n 1, 1) := by decide +kernel
theorem dJ7_copyOf_6403c_7 : decode cJ7_copyOf_6403c 7 = .ok (.anewarray 2, 3) := by decide +kernel
theorem dJ7_copyOf_6403c_10 : decode cJ7_copyOf_6403c 10 = .ok (.goto 14, 3) := by decide +kernel
theorem dJ7_copyOf_6403c_13 : decode cJ7_copyOf_6403c 13 = .ok (.aload_n 2, 1) := by decide +kernel
theorem dJ7_copyOf_6403c_14 : decode cJ7_copyOf_6403c 14 = .ok (.invokevirtual 90, 3) := by decide +kernel
theorem dJ7_copyOf_6403c_17 : decode cJ7_copyOf_6403c 17 = .ok (.iload_n 1, 1) := by decide +kernel
theorem dJ7_copyOf_6403c_18 : decode cJ7_copyOf_6403c 18 = .ok (.invokestatic 95, 3) := by decide +kernel
theorem dJ7_copyOf_6403c_21 : decode cJ7_copyOf_6403c 21 = .ok (.checkcast 110, 3) := by decide +kernel
theorem dJ7_copyOf_6403c_24 : decode cJ7_copyOf_6403c 24 = .ok (.astore_n 3, 1) := by decide +kernel
theorem dJ7_copyOf_6403c_25 : decode cJ7_copyOf_6403c 25 = .ok (.aload_n 0, 1) := by decide +kernel
theorem dJ7_copyOf_6403c_26 : decode cJ7_copyOf_6403c 26 = .ok (.iconst 0, 1) := by decide +kernel
theorem dJ7_copyOf_6403c_27 : decode cJ7_copyOf_6403c 27 = .ok (.aload_n 3, 1) := by decide +kernel
theorem dJ7_copyOf_6403c_28 : decode cJ7_copyOf_6403c 28 = .ok (.iconst 0, 1) := by decide +kernel
theorem dJ7_copyOf_6403c_29 : decode cJ7_copyOf_6403c 29 = .ok (.aload_n 0, 1) := by decide +kernel
theorem dJ7_copyOf_6403c_30 : decode cJ7_copyOf_6403c 30 = .ok (.arraylength, 1) := by decide +kernel
theorem dJ7_copyOf_6403c_31 : decode cJ7_copyOf_6403c 31 = .ok (.iload_n 1, 1) := by decide +kernel
theorem dJ7_copyOf_6403c_32 : decode cJ7_copyOf_6403c 32 = .ok (.invokestatic 304, 3) := by decide +kernel
theorem dJ7_copyOf_6403c_35 : decode cJ7_copyOf_6403c 35 = .ok (.invokestatic 150, 3) := by decide +kernel
theorem dJ7_copyOf_6403c_38 : decode cJ7_copyOf_6403c 38 = .ok (.aload_n 3, 1) := by decide +kernel
theorem dJ7_copyOf_6403c_39 : decode cJ7_copyOf_6403c 39 = .ok (.areturn, 1) := by decide +kernel
theorem dJ9_min_7cf53_0 : decode cJ9_min_7cf53 0 = .ok (.iload_n 0, 1) := by decide +kernel
theorem dJ9_min_7cf53_1 : decode cJ9_min_7cf53 1 = .ok (.iload_n 1, 1) := by decide +kernel
theorem dJ9_min_7cf53_2 : decode cJ9_min_7cf53 2 = .ok (.if_icmp .gt 7, 3) := by decide +kernel
theorem dJ9_min_7cf53_5 : decode cJ9_min_7cf53 5 = .ok (.iload_n 0, 1) := by decide +kernel
theorem dJ9_min_7cf53_6 : decode cJ9_min_7cf53 6 = .ok (.goto 4, 3) := by decide +kernel
theorem dJ9_min_7cf53_9 : decode cJ9_min_7cf53 9 = .ok (.iload_n 1, 1) := by decide +kernel
theorem dJ9_min_7cf53_10 : decode cJ9_min_7cf53 10 = .ok (.ireturn, 1) := by decide +kernel
theorem dX8_draw_0 : decode cX8_draw 0 = .ok (.aload_n 0, 1) := by decide +kernel
theorem dX8_draw_1 : decode cX8_draw 1 = .ok (.bipush 75, 2) := by decide +kernel
theorem dX8_draw_3 : decode cX8_draw 3 = .ok (.aload_n 0, 1) := by decide +kernel
theorem dX8_draw_4 : decode cX8_draw 4 = .ok (.getfield 42, 3) := by decide +kernel
theorem dX8_draw_7 : decode cX8_draw 7 = .ok (.imul, 1) := by decide +kernel
theorem dX8_draw_8 : decode cX8_draw 8 = .ok (.bipush 74, 2) := by decide +kernel
theorem dX8_draw_10 : decode cX8_draw 10 = .ok (.iadd, 1) := by decide +kernel
theorem dX8_draw_11 : decode cX8_draw 11 = .ok (.ldc_w 427, 3) := by decide +kernel
theorem dX8_draw_14 : decode cX8_draw 14 = .ok (.irem, 1) := by decide +kernel
theorem dX8_draw_15 : decode cX8_draw 15 = .ok (.putfield 42, 3) := by decide +kernel
theorem dX8_draw_18 : decode cX8_draw 18 = .ok (.iload_n 1, 1) := by decide +kernel
theorem dX8_draw_19 : decode cX8_draw 19 = .ok (.ifCond .ge 7, 3) := by decide +kernel
theorem dX8_draw_22 : decode cX8_draw 22 = .ok (.iconst 0, 1) := by decide +kernel
theorem dX8_draw_23 : decode cX8_draw 23 = .ok (.goto 11, 3) := by decide +kernel
theorem dX8_draw_26 : decode cX8_draw 26 = .ok (.aload_n 0, 1) := by decide +kernel
theorem dX8_draw_27 : decode cX8_draw 27 = .ok (.getfield 42, 3) := by decide +kernel
theorem dX8_draw_30 : decode cX8_draw 30 = .ok (.iload_n 1, 1) := by decide +kernel
theorem dX8_draw_31 : decode cX8_draw 31 = .ok (.iconst 1, 1) := by decide +kernel
theorem dX8_draw_32 : decode cX8_draw 32 = .ok (.iadd, 1) := by decide +kernel
theorem dX8_draw_33 : decode cX8_draw 33 = .ok (.irem, 1) := by decide +kernel
theorem dX8_draw_34 : decode cX8_draw 34 = .ok (.ireturn, 1) := by decide +kernel
theorem dX8_tellParent_0 : decode cX8_tellParent 0 = .ok (.aload_n 0, 1) := by decide +kernel
theorem dX8_tellParent_1 : decode cX8_tellParent 1 = .ok (.aload_n 1, 1) := by decide +kernel
theorem dX8_tellParent_2 : decode cX8_tellParent 2 = .ok (.getfield 259, 3) := by decide +kernel
theorem dX8_tellParent_5 : decode cX8_tellParent 5 = .ok (.invokevirtual 99, 3) := by decide +kernel
theorem dX8_tellParent_8 : decode cX8_tellParent 8 = .ok (.astore 4, 2) := by decide +kernel
theorem dX8_tellParent_10 : decode cX8_tellParent 10 = .ok (.aload 4, 2) := by decide +kernel
theorem dX8_tellParent_12 : decode cX8_tellParent 12 = .ok (.ifnull 46, 3) := by decide +kernel
theorem dX8_tellParent_15 : decode cX8_tellParent 15 = .ok (.aload_n 1, 1) := by decide +kernel
theorem dX8_tellParent_16 : decode cX8_tellParent 16 = .ok (.getfield 179, 3) := by decide +kernel
theorem dX8_tellParent_19 : decode cX8_tellParent 19 = .ok (.invokevirtual 246, 3) := by decide +kernel
theorem dX8_tellParent_22 : decode cX8_tellParent 22 = .ok (.iconst 4, 1) := by decide +kernel
theorem dX8_tellParent_23 : decode cX8_tellParent 23 = .ok (.if_icmp .eq 35, 3) := by decide +kernel
theorem dX8_tellParent_26 : decode cX8_tellParent 26 = .ok (.aload 4, 2) := by decide +kernel
theorem dX8_tellParent_28 : decode cX8_tellParent 28 = .ok (.aload_n 1, 1) := by decide +kernel
theorem dX8_tellParent_29 : decode cX8_tellParent 29 = .ok (.getfield 406, 3) := by decide +kernel
theorem dX8_tellParent_32 : decode cX8_tellParent 32 = .ok (.invokevirtual 407, 3) := by decide +kernel
theorem dX8_tellParent_35 : decode cX8_tellParent 35 = .ok (.ifCond .eq 23, 3) := by decide +kernel
theorem dX8_tellParent_38 : decode cX8_tellParent 38 = .ok (.aload 4, 2) := by decide +kernel
theorem dX8_tellParent_40 : decode cX8_tellParent 40 = .ok (.getfield 179, 3) := by decide +kernel
theorem dX8_tellParent_43 : decode cX8_tellParent 43 = .ok (.bipush 8, 2) := by decide +kernel
theorem dX8_tellParent_45 : decode cX8_tellParent 45 = .ok (.lload_n 2, 1) := by decide +kernel
theorem dX8_tellParent_46 : decode cX8_tellParent 46 = .ok (.invokevirtual 333, 3) := by decide +kernel
theorem dX8_tellParent_49 : decode cX8_tellParent 49 = .ok (.aload_n 0, 1) := by decide +kernel
theorem dX8_tellParent_50 : decode cX8_tellParent 50 = .ok (.getfield 39, 3) := by decide +kernel
theorem dX8_tellParent_53 : decode cX8_tellParent 53 = .ok (.aload 4, 2) := by decide +kernel
theorem dX8_tellParent_55 : decode cX8_tellParent 55 = .ok (.invokevirtual 337, 3) := by decide +kernel
theorem dX8_tellParent_58 : decode cX8_tellParent 58 = .ok (.return_, 1) := by decide +kernel
theorem dX0_waitsForChild_0 : decode cX0_waitsForChild 0 = .ok (.aload_n 0, 1) := by decide +kernel
theorem dX0_waitsForChild_1 : decode cX0_waitsForChild 1 = .ok (.getfield 32, 3) := by decide +kernel
theorem dX0_waitsForChild_4 : decode cX0_waitsForChild 4 = .ok (.getfield 49, 3) := by decide +kernel
theorem dX0_waitsForChild_7 : decode cX0_waitsForChild 7 = .ok (.ifCond .ne 29, 3) := by decide +kernel
theorem dX0_waitsForChild_10 : decode cX0_waitsForChild 10 = .ok (.aload_n 0, 1) := by decide +kernel
theorem dX0_waitsForChild_11 : decode cX0_waitsForChild 11 = .ok (.getfield 32, 3) := by decide +kernel
theorem dX0_waitsForChild_14 : decode cX0_waitsForChild 14 = .ok (.getfield 55, 3) := by decide +kernel
theorem dX0_waitsForChild_17 : decode cX0_waitsForChild 17 = .ok (.iconst 5, 1) := by decide +kernel
theorem dX0_waitsForChild_18 : decode cX0_waitsForChild 18 = .ok (.if_icmp .ne 18, 3) := by decide +kernel
theorem dX0_waitsForChild_21 : decode cX0_waitsForChild 21 = .ok (.aload_n 0, 1) := by decide +kernel
theorem dX0_waitsForChild_22 : decode cX0_waitsForChild 22 = .ok (.getfield 32, 3) := by decide +kernel
theorem dX0_waitsForChild_25 : decode cX0_waitsForChild 25 = .ok (.getfield 58, 3) := by decide +kernel
theorem dX0_waitsForChild_28 : decode cX0_waitsForChild 28 = .ok (.iload_n 1, 1) := by decide +kernel
theorem dX0_waitsForChild_29 : decode cX0_waitsForChild 29 = .ok (.if_icmp .ne 7, 3) := by decide +kernel
theorem dX0_waitsForChild_32 : decode cX0_waitsForChild 32 = .ok (.iconst 1, 1) := by decide +kernel
theorem dX0_waitsForChild_33 : decode cX0_waitsForChild 33 = .ok (.goto 4, 3) := by decide +kernel
theorem dX0_waitsForChild_36 : decode cX0_waitsForChild 36 = .ok (.iconst 0, 1) := by decide +kernel
theorem dX0_waitsForChild_37 : decode cX0_waitsForChild 37 = .ok (.ireturn, 1) := by decide +kernel
theorem dX8_leave_0 : decode cX8_leave 0 = .ok (.aload_n 0, 1) := by decide +kernel
theorem dX8_leave_1 : decode cX8_leave 1 = .ok (.getfield 35, 3) := by decide +kernel
theorem dX8_leave_4 : decode cX8_leave 4 = .ok (.invokevirtual 388, 3) := by decide +kernel
theorem dX8_leave_7 : decode cX8_leave 7 = .ok (.aload_n 1, 1) := by decide +kernel
theorem dX8_leave_8 : decode cX8_leave 8 = .ok (.getfield 249, 3) := by decide +kernel
theorem dX8_leave_11 : decode cX8_leave 11 = .ok (.getfield 133, 3) := by decide +kernel
theorem dX8_leave_14 : decode cX8_leave 14 = .ok (.ifCond .eq 4, 3) := by decide +kernel
theorem dX8_leave_17 : decode cX8_leave 17 = .ok (.return_, 1) := by decide +kernel
theorem dX8_leave_18 : decode cX8_leave 18 = .ok (.aload_n 1, 1) := by decide +kernel
theorem dX8_leave_19 : decode cX8_leave 19 = .ok (.getfield 249, 3) := by decide +kernel
theorem dX8_leave_22 : decode cX8_leave 22 = .ok (.getfield 391, 3) := by decide +kernel
theorem dX8_leave_25 : decode cX8_leave 25 = .ok (.aload_n 1, 1) := by decide +kernel
theorem dX8_leave_26 : decode cX8_leave 26 = .ok (.getfield 394, 3) := by decide +kernel
theorem dX8_leave_29 : decode cX8_leave 29 = .ok (.if_icmp .lt 7, 3) := by decide +kernel
theorem dX8_leave_32 : decode cX8_leave 32 = .ok (.iconst 1, 1) := by decide +kernel
theorem dX8_leave_33 : decode cX8_leave 33 = .ok (.goto 4, 3) := by decide +kernel
theorem dX8_leave_36 : decode cX8_leave 36 = .ok (.iconst 0, 1) := by decide +kernel
theorem dX8_leave_37 : decode cX8_leave 37 = .ok (.istore_n 2, 1) := by decide +kernel
theorem dX8_leave_38 : decode cX8_leave 38 = .ok (.aload_n 1, 1) := by decide +kernel
theorem dX8_leave_39 : decode cX8_leave 39 = .ok (.aload_n 1, 1) := by decide +kernel
theorem dX8_leave_40 : decode cX8_leave 40 = .ok (.getfield 179, 3) := by decide +kernel
theorem dX8_leave_43 : decode cX8_leave 43 = .ok (.invokevirtual 183, 3) := by decide +kernel
theorem dX8_leave_46 : decode cX8_leave 46 = .ok (.putfield 394, 3) := by decide +kernel
theorem dX8_leave_49 : decode cX8_leave 49 = .ok (.iload_n 2, 1) := by decide +kernel
theorem dX8_leave_50 : decode cX8_leave 50 = .ok (.ifCond .eq 17, 3) := by decide +kernel
theorem dX8_leave_53 : decode cX8_leave 53 = .ok (.aload_n 0, 1) := by decide +kernel
theorem dX8_leave_54 : decode cX8_leave 54 = .ok (.aload_n 1, 1) := by decide +kernel
theorem dX8_leave_55 : decode cX8_leave 55 = .ok (.getfield 249, 3) := by decide +kernel
theorem dX8_leave_58 : decode cX8_leave 58 = .ok (.getfield 397, 3) := by decide +kernel
theorem dX8_leave_61 : decode cX8_leave 61 = .ok (.invokevirtual 400, 3) := by decide +kernel
theorem dX8_leave_64 : decode cX8_leave 64 = .ok (.goto 4, 3) := by decide +kernel
theorem dX8_leave_67 : decode cX8_leave 67 = .ok (.aconst_null, 1) := by decide +kernel
theorem dX8_leave_68 : decode cX8_leave 68 = .ok (.astore_n 3, 1) := by decide +kernel
theorem dX8_leave_69 : decode cX8_leave 69 = .ok (.aload_n 3, 1) := by decide +kernel
theorem dX8_leave_70 : decode cX8_leave 70 = .ok (.ifnull 28, 3) := by decide +kernel
theorem dX8_leave_73 : decode cX8_leave 73 = .ok (.aload_n 3, 1) := by decide +kernel
theorem dX8_leave_74 : decode cX8_leave 74 = .ok (.invokevirtual 330, 3) := by decide +kernel
theorem dX8_leave_77 : decode cX8_leave 77 = .ok (.ifCond .eq 21, 3) := by decide +kernel
theorem dX8_leave_80 : decode cX8_leave 80 = .ok (.aload_n 3, 1) := by decide +kernel
theorem dX8_leave_81 : decode cX8_leave 81 = .ok (.getfield 179, 3) := by decide +kernel
theorem dX8_leave_84 : decode cX8_leave 84 = .ok (.bipush 12, 2) := by decide +kernel
theorem dX8_leave_86 : decode cX8_leave 86 = .ok (.lconst 0, 1) := by decide +kernel
theorem dX8_leave_87 : decode cX8_leave 87 = .ok (.invokevirtual 333, 3) := by decide +kernel
theorem dX8_leave_90 : decode cX8_leave 90 = .ok (.aload_n 0, 1) := by decide +kernel
theorem dX8_leave_91 : decode cX8_leave 91 = .ok (.getfield 35, 3) := by decide +kernel
theorem dX8_leave_94 : decode cX8_leave 94 = .ok (.aload_n 3, 1) := by decide +kernel
theorem dX8_leave_95 : decode cX8_leave 95 = .ok (.invokevirtual 337, 3) := by decide +kernel
theorem dX8_leave_98 : decode cX8_leave 98 = .ok (.return_, 1) := by decide +kernel
theorem dX2_removeLast_0 : decode cX2_removeLast 0 = .ok (.aload_n 0, 1) := by decide +kernel
theorem dX2_removeLast_1 : decode cX2_removeLast 1 = .ok (.getfield 21, 3) := by decide +kernel
theorem dX2_removeLast_4 : decode cX2_removeLast 4 = .ok (.aload_n 0, 1) := by decide +kernel
theorem dX2_removeLast_5 : decode cX2_removeLast 5 = .ok (.getfield 17, 3) := by decide +kernel
theorem dX2_removeLast_8 : decode cX2_removeLast 8 = .ok (.if_icmp .le 13, 3) := by decide +kernel
theorem dX2_removeLast_11 : decode cX2_removeLast 11 = .ok (.aload_n 0, 1) := by decide +kernel
theorem dX2_removeLast_12 : decode cX2_removeLast 12 = .ok (.dup, 1) := by decide +kernel
theorem dX2_removeLast_13 : decode cX2_removeLast 13 = .ok (.getfield 21, 3) := by decide +kernel
theorem dX2_removeLast_16 : decode cX2_removeLast 16 = .ok (.iconst 1, 1) := by decide +kernel
theorem dX2_removeLast_17 : decode cX2_removeLast 17 = .ok (.isub, 1) := by decide +kernel
theorem dX2_removeLast_18 : decode cX2_removeLast 18 = .ok (.putfield 21, 3) := by decide +kernel
theorem dX2_removeLast_21 : decode cX2_removeLast 21 = .ok (.return_, 1) := by decide +kernel
theorem dX8_holder_0 : decode cX8_holder 0 = .ok (.aload_n 0, 1) := by decide +kernel
theorem dX8_holder_1 : decode cX8_holder 1 = .ok (.iload_n 1, 1) := by decide +kernel
theorem dX8_holder_2 : decode cX8_holder 2 = .ok (.invokevirtual 99, 3) := by decide +kernel
theorem dX8_holder_5 : decode cX8_holder 5 = .ok (.astore_n 2, 1) := by decide +kernel
theorem dX8_holder_6 : decode cX8_holder 6 = .ok (.iconst 0, 1) := by decide +kernel
theorem dX8_holder_7 : decode cX8_holder 7 = .ok (.istore_n 3, 1) := by decide +kernel
theorem dX8_holder_8 : decode cX8_holder 8 = .ok (.iload_n 3, 1) := by decide +kernel
theorem dX8_holder_9 : decode cX8_holder 9 = .ok (.bipush 40, 2) := by decide +kernel
theorem dX8_holder_11 : decode cX8_holder 11 = .ok (.if_icmp .ge 30, 3) := by decide +kernel
theorem dX8_holder_14 : decode cX8_holder 14 = .ok (.aload_n 2, 1) := by decide +kernel
theorem dX8_holder_15 : decode cX8_holder 15 = .ok (.ifnull 26, 3) := by decide +kernel
theorem dX8_holder_18 : decode cX8_holder 18 = .ok (.aload_n 2, 1) := by decide +kernel
theorem dX8_holder_19 : decode cX8_holder 19 = .ok (.getfield 403, 3) := by decide +kernel
theorem dX8_holder_22 : decode cX8_holder 22 = .ok (.iconst (-1), 1) := by decide +kernel
theorem dX8_holder_23 : decode cX8_holder 23 = .ok (.if_icmp .eq 18, 3) := by decide +kernel
theorem dX8_holder_26 : decode cX8_holder 26 = .ok (.aload_n 0, 1) := by decide +kernel
theorem dX8_holder_27 : decode cX8_holder 27 = .ok (.aload_n 2, 1) := by decide +kernel
theorem dX8_holder_28 : decode cX8_holder 28 = .ok (.getfield 403, 3) := by decide +kernel
theorem dX8_holder_31 : decode cX8_holder 31 = .ok (.invokevirtual 99, 3) := by decide +kernel
theorem dX8_holder_34 : decode cX8_holder 34 = .ok (.astore_n 2, 1) := by decide +kernel
theorem dX8_holder_35 : decode cX8_holder 35 = .ok (.iinc 3 1, 3) := by decide +kernel
theorem dX8_holder_38 : decode cX8_holder 38 = .ok (.goto (-30), 3) := by decide +kernel
theorem dX8_holder_41 : decode cX8_holder 41 = .ok (.aload_n 2, 1) := by decide +kernel
theorem dX8_holder_42 : decode cX8_holder 42 = .ok (.areturn, 1) := by decide +kernel
theorem dX0_canReceive_0 : decode cX0_canReceive 0 = .ok (.aload_n 0, 1) := by decide +kernel
theorem dX0_canReceive_1 : decode cX0_canReceive 1 = .ok (.invokevirtual 42, 3) := by decide +kernel
theorem dX0_canReceive_4 : decode cX0_canReceive 4 = .ok (.ifCond .ne 19, 3) := by decide +kernel
theorem dX0_canReceive_7 : decode cX0_canReceive 7 = .ok (.aload_n 0, 1) := by decide +kernel
theorem dX0_canReceive_8 : decode cX0_canReceive 8 = .ok (.getfield 28, 3) := by decide +kernel
theorem dX0_canReceive_11 : decode cX0_canReceive 11 = .ok (.invokevirtual 46, 3) := by decide +kernel
theorem dX0_canReceive_14 : decode cX0_canReceive 14 = .ok (.bipush 90, 2) := by decide +kernel
theorem dX0_canReceive_16 : decode cX0_canReceive 16 = .ok (.if_icmp .ge 7, 3) := by decide +kernel
theorem dX0_canReceive_19 : decode cX0_canReceive 19 = .ok (.iconst 1, 1) := by decide +kernel
theorem dX0_canReceive_20 : decode cX0_canReceive 20 = .ok (.goto 4, 3) := by decide +kernel
theorem dX0_canReceive_23 : decode cX0_canReceive 23 = .ok (.iconst 0, 1) := by decide +kernel
theorem dX0_canReceive_24 : decode cX0_canReceive 24 = .ok (.ireturn, 1) := by decide +kernel
theorem dX8_beat_0 : decode cX8_beat 0 = .ok (.aload_n 0, 1) := by decide +kernel
theorem dX8_beat_1 : decode cX8_beat 1 = .ok (.iload_n 1, 1) := by decide +kernel
theorem dX8_beat_2 : decode cX8_beat 2 = .ok (.invokevirtual 225, 3) := by decide +kernel
theorem dX8_beat_5 : decode cX8_beat 5 = .ok (.astore_n 2, 1) := by decide +kernel
theorem dX8_beat_6 : decode cX8_beat 6 = .ok (.aload_n 2, 1) := by decide +kernel
theorem dX8_beat_7 : decode cX8_beat 7 = .ok (.ifnonnull 5, 3) := by decide +kernel
theorem dX8_beat_10 : decode cX8_beat 10 = .ok (.iconst 0, 1) := by decide +kernel
theorem dX8_beat_11 : decode cX8_beat 11 = .ok (.ireturn, 1) := by decide +kernel
theorem dX8_beat_12 : decode cX8_beat 12 = .ok (.aload_n 2, 1) := by decide +kernel
theorem dX8_beat_13 : decode cX8_beat 13 = .ok (.aload_n 0, 1) := by decide +kernel
theorem dX8_beat_14 : decode cX8_beat 14 = .ok (.getfield 206, 3) := by decide +kernel
theorem dX8_beat_17 : decode cX8_beat 17 = .ok (.bipush 6, 2) := by decide +kernel
theorem dX8_beat_19 : decode cX8_beat 19 = .ok (.iadd, 1) := by decide +kernel
theorem dX8_beat_20 : decode cX8_beat 20 = .ok (.putfield 235, 3) := by decide +kernel
theorem dX8_beat_23 : decode cX8_beat 23 = .ok (.iconst 1, 1) := by decide +kernel
theorem dX8_beat_24 : decode cX8_beat 24 = .ok (.ireturn, 1) := by decide +kernel
theorem dX8_workflows_0 : decode cX8_workflows 0 = .ok (.aload_n 0, 1) := by decide +kernel
theorem dX8_workflows_1 : decode cX8_workflows 1 = .ok (.getfield 96, 3) := by decide +kernel
theorem dX8_workflows_4 : decode cX8_workflows 4 = .ok (.ireturn, 1) := by decide +kernel
theorem dX8_tasks_0 : decode cX8_tasks 0 = .ok (.aload_n 0, 1) := by decide +kernel
theorem dX8_tasks_1 : decode cX8_tasks 1 = .ok (.getfield 28, 3) := by decide +kernel
theorem dX8_tasks_4 : decode cX8_tasks 4 = .ok (.invokevirtual 264, 3) := by decide +kernel
theorem dX8_tasks_7 : decode cX8_tasks 7 = .ok (.ireturn, 1) := by decide +kernel
theorem dX8_now_0 : decode cX8_now 0 = .ok (.aload_n 0, 1) := by decide +kernel
theorem dX8_now_1 : decode cX8_now 1 = .ok (.getfield 206, 3) := by decide +kernel
theorem dX8_now_4 : decode cX8_now 4 = .ok (.ireturn, 1) := by decide +kernel
theorem dX8_set_0 : decode cX8_set 0 = .ok (.aload_n 0, 1) := by decide +kernel
theorem dX8_set_1 : decode cX8_set 1 = .ok (.iload_n 1, 1) := by decide +kernel
theorem dX8_set_2 : decode cX8_set 2 = .ok (.invokevirtual 64, 3) := by decide +kernel
theorem dX8_set_5 : decode cX8_set 5 = .ok (.astore 6, 2) := by decide +kernel
theorem dX8_set_7 : decode cX8_set 7 = .ok (.aload 6, 2) := by decide +kernel
theorem dX8_set_9 : decode cX8_set 9 = .ok (.ifnull 12, 3) := by decide +kernel
theorem dX8_set_12 : decode cX8_set 12 = .ok (.iload_n 2, 1) := by decide +kernel
theorem dX8_set_13 : decode cX8_set 13 = .ok (.bipush 20, 2) := by decide +kernel
theorem dX8_set_15 : decode cX8_set 15 = .ok (.invokestatic 68, 3) := by decide +kernel
theorem dX8_set_18 : decode cX8_set 18 = .ok (.ifCond .ne 13, 3) := by decide +kernel
theorem dX8_set_21 : decode cX8_set 21 = .ok (.new 72, 3) := by decide +kernel
theorem dX8_set_24 : decode cX8_set 24 = .ok (.dup, 1) := by decide +kernel
theorem dX8_set_25 : decode cX8_set 25 = .ok (.ldc 74, 2) := by decide +kernel
theorem dX8_set_27 : decode cX8_set 27 = .ok (.invokespecial 76, 3) := by decide +kernel
theorem dX8_set_30 : decode cX8_set 30 = .ok (.athrow, 1) := by decide +kernel
theorem dX8_set_31 : decode cX8_set 31 = .ok (.iload_n 3, 1) := by decide +kernel
theorem dX8_set_32 : decode cX8_set 32 = .ok (.iload 4, 2) := by decide +kernel
theorem dX8_set_34 : decode cX8_set 34 = .ok (.iload 5, 2) := by decide +kernel
theorem dX8_set_36 : decode cX8_set 36 = .ok (.invokestatic 79, 3) := by decide +kernel
theorem dX8_set_39 : decode cX8_set 39 = .ok (.ifCond .ne 13, 3) := by decide +kernel
theorem dX8_set_42 : decode cX8_set 42 = .ok (.new 83, 3) := by decide +kernel
theorem dX8_set_45 : decode cX8_set 45 = .ok (.dup, 1) := by decide +kernel
theorem dX8_set_46 : decode cX8_set 46 = .ok (.ldc 85, 2) := by decide +kernel
theorem dX8_set_48 : decode cX8_set 48 = .ok (.invokespecial 87, 3) := by decide +kernel
theorem dX8_set_51 : decode cX8_set 51 = .ok (.athrow, 1) := by decide +kernel
theorem dX8_set_52 : decode cX8_set 52 = .ok (.aload 6, 2) := by decide +kernel
theorem dX8_set_54 : decode cX8_set 54 = .ok (.iload_n 2, 1) := by decide +kernel
theorem dX8_set_55 : decode cX8_set 55 = .ok (.iload_n 3, 1) := by decide +kernel
theorem dX8_set_56 : decode cX8_set 56 = .ok (.iload 4, 2) := by decide +kernel
theorem dX8_set_58 : decode cX8_set 58 = .ok (.iload 5, 2) := by decide +kernel
theorem dX8_set_60 : decode cX8_set 60 = .ok (.invokevirtual 88, 3) := by decide +kernel
theorem dX8_set_63 : decode cX8_set 63 = .ok (.aload_n 0, 1) := by decide +kernel
theorem dX8_set_64 : decode cX8_set 64 = .ok (.aload 6, 2) := by decide +kernel
theorem dX8_set_66 : decode cX8_set 66 = .ok (.invokevirtual 92, 3) := by decide +kernel
theorem dX8_set_69 : decode cX8_set 69 = .ok (.iconst 0, 1) := by decide +kernel
theorem dX8_set_70 : decode cX8_set 70 = .ok (.istore 7, 2) := by decide +kernel
theorem dX8_set_72 : decode cX8_set 72 = .ok (.iload 7, 2) := by decide +kernel
theorem dX8_set_74 : decode cX8_set 74 = .ok (.aload_n 0, 1) := by decide +kernel
theorem dX8_set_75 : decode cX8_set 75 = .ok (.getfield 96, 3) := by decide +kernel
theorem dX8_set_78 : decode cX8_set 78 = .ok (.if_icmp .ge 46, 3) := by decide +kernel
theorem dX8_set_81 : decode cX8_set 81 = .ok (.aload_n 0, 1) := by decide +kernel
theorem dX8_set_82 : decode cX8_set 82 = .ok (.iload 7, 2) := by decide +kernel
theorem dX8_set_84 : decode cX8_set 84 = .ok (.invokevirtual 99, 3) := by decide +kernel
theorem dX8_set_87 : decode cX8_set 87 = .ok (.astore 8, 2) := by decide +kernel
theorem dX8_set_89 : decode cX8_set 89 = .ok (.aload 8, 2) := by decide +kernel
theorem dX8_set_91 : decode cX8_set 91 = .ok (.ifnull 27, 3) := by decide +kernel
theorem dX8_set_94 : decode cX8_set 94 = .ok (.aload 8, 2) := by decide +kernel
theorem dX8_set_96 : decode cX8_set 96 = .ok (.getfield 103, 3) := by decide +kernel
theorem dX8_set_99 : decode cX8_set 99 = .ok (.aload 6, 2) := by decide +kernel
theorem dX8_set_101 : decode cX8_set 101 = .ok (.if_acmp .ne 17, 3) := by decide +kernel
theorem dX8_set_104 : decode cX8_set 104 = .ok (.aload 8, 2) := by decide +kernel
theorem dX8_set_106 : decode cX8_set 106 = .ok (.invokevirtual 107, 3) := by decide +kernel
theorem dX8_set_109 : decode cX8_set 109 = .ok (.ifCond .ne 9, 3) := by decide +kernel
theorem dX8_set_112 : decode cX8_set 112 = .ok (.aload_n 0, 1) := by decide +kernel
theorem dX8_set_113 : decode cX8_set 113 = .ok (.aload 8, 2) := by decide +kernel
theorem dX8_set_115 : decode cX8_set 115 = .ok (.invokevirtual 111, 3) := by decide +kernel
theorem dX8_set_118 : decode cX8_set 118 = .ok (.iinc 7 1, 3) := by decide +kernel
theorem dX8_set_121 : decode cX8_set 121 = .ok (.goto (-49), 3) := by decide +kernel
theorem dX8_set_124 : decode cX8_set 124 = .ok (.aload_n 0, 1) := by decide +kernel
theorem dX8_set_125 : decode cX8_set 125 = .ok (.aload 6, 2) := by decide +kernel
theorem dX8_set_127 : decode cX8_set 127 = .ok (.invokevirtual 115, 3) := by decide +kernel
theorem dX8_set_130 : decode cX8_set 130 = .ok (.ireturn, 1) := by decide +kernel
theorem dX8_isBelow_0 : decode cX8_isBelow 0 = .ok (.iload_n 0, 1) := by decide +kernel
theorem dX8_isBelow_1 : decode cX8_isBelow 1 = .ok (.ifCond .lt 12, 3) := by decide +kernel
theorem dX8_isBelow_4 : decode cX8_isBelow 4 = .ok (.iload_n 0, 1) := by decide +kernel
theorem dX8_isBelow_5 : decode cX8_isBelow 5 = .ok (.iload_n 1, 1) := by decide +kernel
theorem dX8_isBelow_6 : decode cX8_isBelow 6 = .ok (.if_icmp .ge 7, 3) := by decide +kernel
theorem dX8_isBelow_9 : decode cX8_isBelow 9 = .ok (.iconst 1, 1) := by decide +kernel
theorem dX8_isBelow_10 : decode cX8_isBelow 10 = .ok (.goto 4, 3) := by decide +kernel
theorem dX8_isBelow_13 : decode cX8_isBelow 13 = .ok (.iconst 0, 1) := by decide +kernel
theorem dX8_isBelow_14 : decode cX8_isBelow 14 = .ok (.ireturn, 1) := by decide +kernel
theorem dX8_isStep_0 : decode cX8_isStep 0 = .ok (.iload_n 0, 1) := by decide +kernel
theorem dX8_isStep_1 : decode cX8_isStep 1 = .ok (.bipush 18, 2) := by decide +kernel
theorem dX8_isStep_3 : decode cX8_isStep 3 = .ok (.invokestatic 68, 3) := by decide +kernel
theorem dX8_isStep_6 : decode cX8_isStep 6 = .ok (.ifCond .eq 25, 3) := by decide +kernel
theorem dX8_isStep_9 : decode cX8_isStep 9 = .ok (.iload_n 1, 1) := by decide +kernel
theorem dX8_isStep_10 : decode cX8_isStep 10 = .ok (.bipush 100, 2) := by decide +kernel
theorem dX8_isStep_12 : decode cX8_isStep 12 = .ok (.invokestatic 68, 3) := by decide +kernel
theorem dX8_isStep_15 : decode cX8_isStep 15 = .ok (.ifCond .eq 16, 3) := by decide +kernel
theorem dX8_isStep_18 : decode cX8_isStep 18 = .ok (.iload_n 2, 1) := by decide +kernel
theorem dX8_isStep_19 : decode cX8_isStep 19 = .ok (.bipush 100, 2) := by decide +kernel
theorem dX8_isStep_21 : decode cX8_isStep 21 = .ok (.invokestatic 68, 3) := by decide +kernel
theorem dX8_isStep_24 : decode cX8_isStep 24 = .ok (.ifCond .eq 7, 3) := by decide +kernel
theorem dX8_isStep_27 : decode cX8_isStep 27 = .ok (.iconst 1, 1) := by decide +kernel
theorem dX8_isStep_28 : decode cX8_isStep 28 = .ok (.goto 4, 3) := by decide +kernel
theorem dX8_isStep_31 : decode cX8_isStep 31 = .ok (.iconst 0, 1) := by decide +kernel
theorem dX8_isStep_32 : decode cX8_isStep 32 = .ok (.ireturn, 1) := by decide +kernel
theorem dX4_put_0 : decode cX4_put 0 = .ok (.iload_n 1, 1) := by decide +kernel
theorem dX4_put_1 : decode cX4_put 1 = .ok (.ifCond .lt 52, 3) := by decide +kernel
theorem dX4_put_4 : decode cX4_put 4 = .ok (.iload_n 1, 1) := by decide +kernel
theorem dX4_put_5 : decode cX4_put 5 = .ok (.aload_n 0, 1) := by decide +kernel
theorem dX4_put_6 : decode cX4_put 6 = .ok (.getfield 9, 3) := by decide +kernel
theorem dX4_put_9 : decode cX4_put 9 = .ok (.arraylength, 1) := by decide +kernel
theorem dX4_put_10 : decode cX4_put 10 = .ok (.if_icmp .ge 43, 3) := by decide +kernel
theorem dX4_put_13 : decode cX4_put 13 = .ok (.iload_n 1, 1) := by decide +kernel
theorem dX4_put_14 : decode cX4_put 14 = .ok (.aload_n 0, 1) := by decide +kernel
theorem dX4_put_15 : decode cX4_put 15 = .ok (.getfield 15, 3) := by decide +kernel
theorem dX4_put_18 : decode cX4_put 18 = .ok (.arraylength, 1) := by decide +kernel
theorem dX4_put_19 : decode cX4_put 19 = .ok (.if_icmp .ge 34, 3) := by decide +kernel
theorem dX4_put_22 : decode cX4_put 22 = .ok (.iload_n 1, 1) := by decide +kernel
theorem dX4_put_23 : decode cX4_put 23 = .ok (.aload_n 0, 1) := by decide +kernel
theorem dX4_put_24 : decode cX4_put 24 = .ok (.getfield 18, 3) := by decide +kernel
theorem dX4_put_27 : decode cX4_put 27 = .ok (.arraylength, 1) := by decide +kernel
theorem dX4_put_28 : decode cX4_put 28 = .ok (.if_icmp .ge 25, 3) := by decide +kernel
theorem dX4_put_31 : decode cX4_put 31 = .ok (.aload_n 0, 1) := by decide +kernel
theorem dX4_put_32 : decode cX4_put 32 = .ok (.getfield 9, 3) := by decide +kernel
theorem dX4_put_35 : decode cX4_put 35 = .ok (.iload_n 1, 1) := by decide +kernel
theorem dX4_put_36 : decode cX4_put 36 = .ok (.iload_n 2, 1) := by decide +kernel
theorem dX4_put_37 : decode cX4_put 37 = .ok (.iastore, 1) := by decide +kernel
theorem dX4_put_38 : decode cX4_put 38 = .ok (.aload_n 0, 1) := by decide +kernel
theorem dX4_put_39 : decode cX4_put 39 = .ok (.getfield 15, 3) := by decide +kernel
theorem dX4_put_42 : decode cX4_put 42 = .ok (.iload_n 1, 1) := by decide +kernel
theorem dX4_put_43 : decode cX4_put 43 = .ok (.iload_n 3, 1) := by decide +kernel
theorem dX4_put_44 : decode cX4_put 44 = .ok (.iastore, 1) := by decide +kernel
theorem dX4_put_45 : decode cX4_put 45 = .ok (.aload_n 0, 1) := by decide +kernel
theorem dX4_put_46 : decode cX4_put 46 = .ok (.getfield 18, 3) := by decide +kernel
theorem dX4_put_49 : decode cX4_put 49 = .ok (.iload_n 1, 1) := by decide +kernel
theorem dX4_put_50 : decode cX4_put 50 = .ok (.iload 4, 2) := by decide +kernel
theorem dX4_put_52 : decode cX4_put 52 = .ok (.iastore, 1) := by decide +kernel
theorem dX4_put_53 : decode cX4_put 53 = .ok (.return_, 1) := by decide +kernel
theorem dX8_findAgain_0 : decode cX8_findAgain 0 = .ok (.iconst 0, 1) := by decide +kernel
theorem dX8_findAgain_1 : decode cX8_findAgain 1 = .ok (.istore_n 2, 1) := by decide +kernel
theorem dX8_findAgain_2 : decode cX8_findAgain 2 = .ok (.iload_n 2, 1) := by decide +kernel
theorem dX8_findAgain_3 : decode cX8_findAgain 3 = .ok (.aload_n 0, 1) := by decide +kernel
theorem dX8_findAgain_4 : decode cX8_findAgain 4 = .ok (.getfield 96, 3) := by decide +kernel
theorem dX8_findAgain_7 : decode cX8_findAgain 7 = .ok (.if_icmp .ge 38, 3) := by decide +kernel
theorem dX8_findAgain_10 : decode cX8_findAgain 10 = .ok (.aload_n 0, 1) := by decide +kernel
theorem dX8_findAgain_11 : decode cX8_findAgain 11 = .ok (.iload_n 2, 1) := by decide +kernel
theorem dX8_findAgain_12 : decode cX8_findAgain 12 = .ok (.invokevirtual 99, 3) := by decide +kernel
theorem dX8_findAgain_15 : decode cX8_findAgain 15 = .ok (.astore_n 3, 1) := by decide +kernel
theorem dX8_findAgain_16 : decode cX8_findAgain 16 = .ok (.aload_n 3, 1) := by decide +kernel
theorem dX8_findAgain_17 : decode cX8_findAgain 17 = .ok (.ifnull 22, 3) := by decide +kernel
theorem dX8_findAgain_20 : decode cX8_findAgain 20 = .ok (.aload_n 3, 1) := by decide +kernel
theorem dX8_findAgain_21 : decode cX8_findAgain 21 = .ok (.getfield 103, 3) := by decide +kernel
theorem dX8_findAgain_24 : decode cX8_findAgain 24 = .ok (.aload_n 1, 1) := by decide +kernel
theorem dX8_findAgain_25 : decode cX8_findAgain 25 = .ok (.if_acmp .ne 14, 3) := by decide +kernel
theorem dX8_findAgain_28 : decode cX8_findAgain 28 = .ok (.aload_n 3, 1) := by decide +kernel
theorem dX8_findAgain_29 : decode cX8_findAgain 29 = .ok (.invokevirtual 107, 3) := by decide +kernel
theorem dX8_findAgain_32 : decode cX8_findAgain 32 = .ok (.ifCond .ne 7, 3) := by decide +kernel
theorem dX8_findAgain_35 : decode cX8_findAgain 35 = .ok (.aload_n 3, 1) := by decide +kernel
theorem dX8_findAgain_36 : decode cX8_findAgain 36 = .ok (.invokevirtual 193, 3) := by decide +kernel
theorem dX8_findAgain_39 : decode cX8_findAgain 39 = .ok (.iinc 2 1, 3) := by decide +kernel
theorem dX8_findAgain_42 : decode cX8_findAgain 42 = .ok (.goto (-40), 3) := by decide +kernel
theorem dX8_findAgain_45 : decode cX8_findAgain 45 = .ok (.return_, 1) := by decide +kernel
theorem dX8_countAstray_0 : decode cX8_countAstray 0 = .ok (.iconst 0, 1) := by decide +kernel
theorem dX8_countAstray_1 : decode cX8_countAstray 1 = .ok (.istore_n 2, 1) := by decide +kernel
theorem dX8_countAstray_2 : decode cX8_countAstray 2 = .ok (.iconst 0, 1) := by decide +kernel
theorem dX8_countAstray_3 : decode cX8_countAstray 3 = .ok (.istore_n 3, 1) := by decide +kernel
theorem dX8_countAstray_4 : decode cX8_countAstray 4 = .ok (.iload_n 3, 1) := by decide +kernel
theorem dX8_countAstray_5 : decode cX8_countAstray 5 = .ok (.aload_n 0, 1) := by decide +kernel
theorem dX8_countAstray_6 : decode cX8_countAstray 6 = .ok (.getfield 96, 3) := by decide +kernel
theorem dX8_countAstray_9 : decode cX8_countAstray 9 = .ok (.if_icmp .ge 52, 3) := by decide +kernel
theorem dX8_countAstray_12 : decode cX8_countAstray 12 = .ok (.aload_n 0, 1) := by decide +kernel
theorem dX8_countAstray_13 : decode cX8_countAstray 13 = .ok (.iload_n 3, 1) := by decide +kernel
theorem dX8_countAstray_14 : decode cX8_countAstray 14 = .ok (.invokevirtual 99, 3) := by decide +kernel
theorem dX8_countAstray_17 : decode cX8_countAstray 17 = .ok (.astore 4, 2) := by decide +kernel
theorem dX8_countAstray_19 : decode cX8_countAstray 19 = .ok (.aload 4, 2) := by decide +kernel
theorem dX8_countAstray_21 : decode cX8_countAstray 21 = .ok (.ifnull 34, 3) := by decide +kernel
theorem dX8_countAstray_24 : decode cX8_countAstray 24 = .ok (.aload 4, 2) := by decide +kernel
theorem dX8_countAstray_26 : decode cX8_countAstray 26 = .ok (.getfield 103, 3) := by decide +kernel
theorem dX8_countAstray_29 : decode cX8_countAstray 29 = .ok (.aload_n 1, 1) := by decide +kernel
theorem dX8_countAstray_30 : decode cX8_countAstray 30 = .ok (.if_acmp .ne 25, 3) := by decide +kernel
theorem dX8_countAstray_33 : decode cX8_countAstray 33 = .ok (.aload 4, 2) := by decide +kernel
theorem dX8_countAstray_35 : decode cX8_countAstray 35 = .ok (.invokevirtual 107, 3) := by decide +kernel
theorem dX8_countAstray_38 : decode cX8_countAstray 38 = .ok (.ifCond .ne 17, 3) := by decide +kernel
theorem dX8_countAstray_41 : decode cX8_countAstray 41 = .ok (.aload 4, 2) := by decide +kernel
theorem dX8_countAstray_43 : decode cX8_countAstray 43 = .ok (.getfield 249, 3) := by decide +kernel
theorem dX8_countAstray_46 : decode cX8_countAstray 46 = .ok (.getfield 133, 3) := by decide +kernel
theorem dX8_countAstray_49 : decode cX8_countAstray 49 = .ok (.ifCond .eq 6, 3) := by decide +kernel
theorem dX8_countAstray_52 : decode cX8_countAstray 52 = .ok (.iinc 2 1, 3) := by decide +kernel
theorem dX8_countAstray_55 : decode cX8_countAstray 55 = .ok (.iinc 3 1, 3) := by decide +kernel
theorem dX8_countAstray_58 : decode cX8_countAstray 58 = .ok (.goto (-54), 3) := by decide +kernel
theorem dX8_countAstray_61 : decode cX8_countAstray 61 = .ok (.iload_n 2, 1) := by decide +kernel
theorem dX8_countAstray_62 : decode cX8_countAstray 62 = .ok (.ireturn, 1) := by decide +kernel
theorem dX8_check_0 : decode cX8_check 0 = .ok (.aload_n 0, 1) := by decide +kernel
theorem dX8_check_1 : decode cX8_check 1 = .ok (.iload_n 1, 1) := by decide +kernel
theorem dX8_check_2 : decode cX8_check 2 = .ok (.invokevirtual 64, 3) := by decide +kernel
theorem dX8_check_5 : decode cX8_check 5 = .ok (.astore 6, 2) := by decide +kernel
theorem dX8_check_7 : decode cX8_check 7 = .ok (.aload 6, 2) := by decide +kernel
theorem dX8_check_9 : decode cX8_check 9 = .ok (.ifnull 12, 3) := by decide +kernel
theorem dX8_check_12 : decode cX8_check 12 = .ok (.iload_n 2, 1) := by decide +kernel
theorem dX8_check_13 : decode cX8_check 13 = .ok (.bipush 20, 2) := by decide +kernel
theorem dX8_check_15 : decode cX8_check 15 = .ok (.invokestatic 68, 3) := by decide +kernel
theorem dX8_check_18 : decode cX8_check 18 = .ok (.ifCond .ne 13, 3) := by decide +kernel
theorem dX8_check_21 : decode cX8_check 21 = .ok (.new 72, 3) := by decide +kernel
theorem dX8_check_24 : decode cX8_check 24 = .ok (.dup, 1) := by decide +kernel
theorem dX8_check_25 : decode cX8_check 25 = .ok (.ldc 74, 2) := by decide +kernel
theorem dX8_check_27 : decode cX8_check 27 = .ok (.invokespecial 76, 3) := by decide +kernel
theorem dX8_check_30 : decode cX8_check 30 = .ok (.athrow, 1) := by decide +kernel
theorem dX8_check_31 : decode cX8_check 31 = .ok (.iload_n 3, 1) := by decide +kernel
theorem dX8_check_32 : decode cX8_check 32 = .ok (.iload 4, 2) := by decide +kernel
theorem dX8_check_34 : decode cX8_check 34 = .ok (.iload 5, 2) := by decide +kernel
theorem dX8_check_36 : decode cX8_check 36 = .ok (.invokestatic 79, 3) := by decide +kernel
theorem dX8_check_39 : decode cX8_check 39 = .ok (.ifCond .ne 13, 3) := by decide +kernel
theorem dX8_check_42 : decode cX8_check 42 = .ok (.new 83, 3) := by decide +kernel
theorem dX8_check_45 : decode cX8_check 45 = .ok (.dup, 1) := by decide +kernel
theorem dX8_check_46 : decode cX8_check 46 = .ok (.ldc 85, 2) := by decide +kernel
theorem dX8_check_48 : decode cX8_check 48 = .ok (.invokespecial 87, 3) := by decide +kernel
theorem dX8_check_51 : decode cX8_check 51 = .ok (.athrow, 1) := by decide +kernel
theorem dX8_check_52 : decode cX8_check 52 = .ok (.aload 6, 2) := by decide +kernel
theorem dX8_check_54 : decode cX8_check 54 = .ok (.iload_n 2, 1) := by decide +kernel
theorem dX8_check_55 : decode cX8_check 55 = .ok (.invokevirtual 119, 3) := by decide +kernel
theorem dX8_check_58 : decode cX8_check 58 = .ok (.istore 7, 2) := by decide +kernel
theorem dX8_check_60 : decode cX8_check 60 = .ok (.aload 6, 2) := by decide +kernel
theorem dX8_check_62 : decode cX8_check 62 = .ok (.iload_n 2, 1) := by decide +kernel
theorem dX8_check_63 : decode cX8_check 63 = .ok (.invokevirtual 123, 3) := by decide +kernel
theorem dX8_check_66 : decode cX8_check 66 = .ok (.istore 8, 2) := by decide +kernel
theorem dX8_check_68 : decode cX8_check 68 = .ok (.aload 6, 2) := by decide +kernel
theorem dX8_check_70 : decode cX8_check 70 = .ok (.iload_n 2, 1) := by decide +kernel
theorem dX8_check_71 : decode cX8_check 71 = .ok (.invokevirtual 126, 3) := by decide +kernel
theorem dX8_check_74 : decode cX8_check 74 = .ok (.istore 9, 2) := by decide +kernel
theorem dX8_check_76 : decode cX8_check 76 = .ok (.aload 6, 2) := by decide +kernel
theorem dX8_check_78 : decode cX8_check 78 = .ok (.iload_n 2, 1) := by decide +kernel
theorem dX8_check_79 : decode cX8_check 79 = .ok (.iload_n 3, 1) := by decide +kernel
theorem dX8_check_80 : decode cX8_check 80 = .ok (.iload 4, 2) := by decide +kernel
theorem dX8_check_82 : decode cX8_check 82 = .ok (.iload 5, 2) := by decide +kernel
theorem dX8_check_84 : decode cX8_check 84 = .ok (.invokevirtual 88, 3) := by decide +kernel
theorem dX8_check_87 : decode cX8_check 87 = .ok (.iconst 0, 1) := by decide +kernel
theorem dX8_check_88 : decode cX8_check 88 = .ok (.istore 10, 2) := by decide +kernel
theorem dX8_check_90 : decode cX8_check 90 = .ok (.iconst 0, 1) := by decide +kernel
theorem dX8_check_91 : decode cX8_check 91 = .ok (.istore 11, 2) := by decide +kernel
theorem dX8_check_93 : decode cX8_check 93 = .ok (.iload 11, 2) := by decide +kernel
theorem dX8_check_95 : decode cX8_check 95 = .ok (.aload_n 0, 1) := by decide +kernel
theorem dX8_check_96 : decode cX8_check 96 = .ok (.getfield 96, 3) := by decide +kernel
theorem dX8_check_99 : decode cX8_check 99 = .ok (.if_icmp .ge 55, 3) := by decide +kernel
theorem dX8_check_102 : decode cX8_check 102 = .ok (.aload_n 0, 1) := by decide +kernel
theorem dX8_check_103 : decode cX8_check 103 = .ok (.iload 11, 2) := by decide +kernel
theorem dX8_check_105 : decode cX8_check 105 = .ok (.invokevirtual 99, 3) := by decide +kernel
theorem dX8_check_108 : decode cX8_check 108 = .ok (.astore 12, 2) := by decide +kernel
theorem dX8_check_110 : decode cX8_check 110 = .ok (.aload 12, 2) := by decide +kernel
theorem dX8_check_112 : decode cX8_check 112 = .ok (.ifnull 36, 3) := by decide +kernel
theorem dX8_check_115 : decode cX8_check 115 = .ok (.aload 12, 2) := by decide +kernel
theorem dX8_check_117 : decode cX8_check 117 = .ok (.getfield 103, 3) := by decide +kernel
theorem dX8_check_120 : decode cX8_check 120 = .ok (.aload 6, 2) := by decide +kernel
theorem dX8_check_122 : decode cX8_check 122 = .ok (.if_acmp .ne 26, 3) := by decide +kernel
theorem dX8_check_125 : decode cX8_check 125 = .ok (.aload 12, 2) := by decide +kernel
theorem dX8_check_127 : decode cX8_check 127 = .ok (.invokevirtual 107, 3) := by decide +kernel
theorem dX8_check_130 : decode cX8_check 130 = .ok (.ifCond .ne 18, 3) := by decide +kernel
theorem dX8_check_133 : decode cX8_check 133 = .ok (.aload_n 0, 1) := by decide +kernel
theorem dX8_check_134 : decode cX8_check 134 = .ok (.aload 12, 2) := by decide +kernel
theorem dX8_check_136 : decode cX8_check 136 = .ok (.invokevirtual 129, 3) := by decide +kernel
theorem dX8_check_139 : decode cX8_check 139 = .ok (.getfield 133, 3) := by decide +kernel
theorem dX8_check_142 : decode cX8_check 142 = .ok (.ifCond .eq 6, 3) := by decide +kernel
theorem dX8_check_145 : decode cX8_check 145 = .ok (.iinc 10 1, 3) := by decide +kernel
theorem dX8_check_148 : decode cX8_check 148 = .ok (.iinc 11 1, 3) := by decide +kernel
theorem dX8_check_151 : decode cX8_check 151 = .ok (.goto (-58), 3) := by decide +kernel
theorem dX8_check_154 : decode cX8_check 154 = .ok (.aload 6, 2) := by decide +kernel
theorem dX8_check_156 : decode cX8_check 156 = .ok (.iload_n 2, 1) := by decide +kernel
theorem dX8_check_157 : decode cX8_check 157 = .ok (.iload 7, 2) := by decide +kernel
theorem dX8_check_159 : decode cX8_check 159 = .ok (.iload 8, 2) := by decide +kernel
theorem dX8_check_161 : decode cX8_check 161 = .ok (.iload 9, 2) := by decide +kernel
theorem dX8_check_163 : decode cX8_check 163 = .ok (.invokevirtual 88, 3) := by decide +kernel
theorem dX8_check_166 : decode cX8_check 166 = .ok (.iload 10, 2) := by decide +kernel
theorem dX8_check_168 : decode cX8_check 168 = .ok (.ireturn, 1) := by decide +kernel
theorem dX8_replayed_0 : decode cX8_replayed 0 = .ok (.aload_n 0, 1) := by decide +kernel
theorem dX8_replayed_1 : decode cX8_replayed 1 = .ok (.getfield 60, 3) := by decide +kernel
theorem dX8_replayed_4 : decode cX8_replayed 4 = .ok (.aload_n 1, 1) := by decide +kernel
theorem dX8_replayed_5 : decode cX8_replayed 5 = .ok (.getfield 103, 3) := by decide +kernel
theorem dX8_replayed_8 : decode cX8_replayed 8 = .ok (.aload_n 1, 1) := by decide +kernel
theorem dX8_replayed_9 : decode cX8_replayed 9 = .ok (.getfield 179, 3) := by decide +kernel
theorem dX8_replayed_12 : decode cX8_replayed 12 = .ok (.invokevirtual 286, 3) := by decide +kernel
theorem dX8_replayed_15 : decode cX8_replayed 15 = .ok (.aload_n 0, 1) := by decide +kernel
theorem dX8_replayed_16 : decode cX8_replayed 16 = .ok (.getfield 60, 3) := by decide +kernel
theorem dX8_replayed_19 : decode cX8_replayed 19 = .ok (.aload_n 1, 1) := by decide +kernel
theorem dX8_replayed_20 : decode cX8_replayed 20 = .ok (.getfield 179, 3) := by decide +kernel
theorem dX8_replayed_23 : decode cX8_replayed 23 = .ok (.invokevirtual 183, 3) := by decide +kernel
theorem dX8_replayed_26 : decode cX8_replayed 26 = .ok (.invokevirtual 289, 3) := by decide +kernel
theorem dX8_replayed_29 : decode cX8_replayed 29 = .ok (.aload_n 0, 1) := by decide +kernel
theorem dX8_replayed_30 : decode cX8_replayed 30 = .ok (.getfield 60, 3) := by decide +kernel
theorem dX8_replayed_33 : decode cX8_replayed 33 = .ok (.areturn, 1) := by decide +kernel
theorem dX8_start_0 : decode cX8_start 0 = .ok (.aload_n 0, 1) := by decide +kernel
theorem dX8_start_1 : decode cX8_start 1 = .ok (.iload_n 1, 1) := by decide +kernel
theorem dX8_start_2 : decode cX8_start 2 = .ok (.invokevirtual 64, 3) := by decide +kernel
theorem dX8_start_5 : decode cX8_start 5 = .ok (.astore_n 3, 1) := by decide +kernel
theorem dX8_start_6 : decode cX8_start 6 = .ok (.aload_n 3, 1) := by decide +kernel
theorem dX8_start_7 : decode cX8_start 7 = .ok (.ifnonnull 13, 3) := by decide +kernel
theorem dX8_start_10 : decode cX8_start 10 = .ok (.new 72, 3) := by decide +kernel
theorem dX8_start_13 : decode cX8_start 13 = .ok (.dup, 1) := by decide +kernel
theorem dX8_start_14 : decode cX8_start 14 = .ok (.ldc 137, 2) := by decide +kernel
theorem dX8_start_16 : decode cX8_start 16 = .ok (.invokespecial 76, 3) := by decide +kernel
theorem dX8_start_19 : decode cX8_start 19 = .ok (.athrow, 1) := by decide +kernel
theorem dX8_start_20 : decode cX8_start 20 = .ok (.iload_n 2, 1) := by decide +kernel
theorem dX8_start_21 : decode cX8_start 21 = .ok (.sipush (-999), 3) := by decide +kernel
theorem dX8_start_24 : decode cX8_start 24 = .ok (.if_icmp .lt 10, 3) := by decide +kernel
theorem dX8_start_27 : decode cX8_start 27 = .ok (.iload_n 2, 1) := by decide +kernel
theorem dX8_start_28 : decode cX8_start 28 = .ok (.sipush 999, 3) := by decide +kernel
theorem dX8_start_31 : decode cX8_start 31 = .ok (.if_icmp .le 13, 3) := by decide +kernel
theorem dX8_start_34 : decode cX8_start 34 = .ok (.new 83, 3) := by decide +kernel
theorem dX8_start_37 : decode cX8_start 37 = .ok (.dup, 1) := by decide +kernel
theorem dX8_start_38 : decode cX8_start 38 = .ok (.ldc 139, 2) := by decide +kernel
theorem dX8_start_40 : decode cX8_start 40 = .ok (.invokespecial 87, 3) := by decide +kernel
theorem dX8_start_43 : decode cX8_start 43 = .ok (.athrow, 1) := by decide +kernel
theorem dX8_start_44 : decode cX8_start 44 = .ok (.aload_n 0, 1) := by decide +kernel
theorem dX8_start_45 : decode cX8_start 45 = .ok (.aload_n 3, 1) := by decide +kernel
theorem dX8_start_46 : decode cX8_start 46 = .ok (.iload_n 2, 1) := by decide +kernel
theorem dX8_start_47 : decode cX8_start 47 = .ok (.iconst (-1), 1) := by decide +kernel
theorem dX8_start_48 : decode cX8_start 48 = .ok (.iconst (-1), 1) := by decide +kernel
theorem dX8_start_49 : decode cX8_start 49 = .ok (.invokevirtual 141, 3) := by decide +kernel
theorem dX8_start_52 : decode cX8_start 52 = .ok (.astore 4, 2) := by decide +kernel
theorem dX8_start_54 : decode cX8_start 54 = .ok (.aload 4, 2) := by decide +kernel
theorem dX8_start_56 : decode cX8_start 56 = .ok (.ifnonnull 13, 3) := by decide +kernel
theorem dX8_start_59 : decode cX8_start 59 = .ok (.new 145, 3) := by decide +kernel
theorem dX8_start_62 : decode cX8_start 62 = .ok (.dup, 1) := by decide +kernel
theorem dX8_start_63 : decode cX8_start 63 = .ok (.ldc 147, 2) := by decide +kernel
theorem dX8_start_65 : decode cX8_start 65 = .ok (.invokespecial 149, 3) := by decide +kernel
theorem dX8_start_68 : decode cX8_start 68 = .ok (.athrow, 1) := by decide +kernel
theorem dX8_start_69 : decode cX8_start 69 = .ok (.aload_n 0, 1) := by decide +kernel
theorem dX8_start_70 : decode cX8_start 70 = .ok (.aload 4, 2) := by decide +kernel
theorem dX8_start_72 : decode cX8_start 72 = .ok (.invokevirtual 111, 3) := by decide +kernel
theorem dX8_start_75 : decode cX8_start 75 = .ok (.aload 4, 2) := by decide +kernel
theorem dX8_start_77 : decode cX8_start 77 = .ok (.getfield 150, 3) := by decide +kernel
theorem dX8_start_80 : decode cX8_start 80 = .ok (.ireturn, 1) := by decide +kernel
theorem dX8_signal_0 : decode cX8_signal 0 = .ok (.aload_n 0, 1) := by decide +kernel
theorem dX8_signal_1 : decode cX8_signal 1 = .ok (.iload_n 1, 1) := by decide +kernel
theorem dX8_signal_2 : decode cX8_signal 2 = .ok (.invokevirtual 99, 3) := by decide +kernel
theorem dX8_signal_5 : decode cX8_signal 5 = .ok (.astore 4, 2) := by decide +kernel
theorem dX8_signal_7 : decode cX8_signal 7 = .ok (.aload 4, 2) := by decide +kernel
theorem dX8_signal_9 : decode cX8_signal 9 = .ok (.ifnonnull 13, 3) := by decide +kernel
theorem dX8_signal_12 : decode cX8_signal 12 = .ok (.new 72, 3) := by decide +kernel
theorem dX8_signal_15 : decode cX8_signal 15 = .ok (.dup, 1) := by decide +kernel
theorem dX8_signal_16 : decode cX8_signal 16 = .ok (.ldc 153, 2) := by decide +kernel
theorem dX8_signal_18 : decode cX8_signal 18 = .ok (.invokespecial 76, 3) := by decide +kernel
theorem dX8_signal_21 : decode cX8_signal 21 = .ok (.athrow, 1) := by decide +kernel
theorem dX8_signal_22 : decode cX8_signal 22 = .ok (.iload_n 2, 1) := by decide +kernel
theorem dX8_signal_23 : decode cX8_signal 23 = .ok (.bipush 100, 2) := by decide +kernel
theorem dX8_signal_25 : decode cX8_signal 25 = .ok (.invokestatic 68, 3) := by decide +kernel
theorem dX8_signal_28 : decode cX8_signal 28 = .ok (.ifCond .eq 12, 3) := by decide +kernel
theorem dX8_signal_31 : decode cX8_signal 31 = .ok (.iload_n 3, 1) := by decide +kernel
theorem dX8_signal_32 : decode cX8_signal 32 = .ok (.bipush 100, 2) := by decide +kernel
theorem dX8_signal_34 : decode cX8_signal 34 = .ok (.invokestatic 68, 3) := by decide +kernel
theorem dX8_signal_37 : decode cX8_signal 37 = .ok (.ifCond .ne 13, 3) := by decide +kernel
theorem dX8_signal_40 : decode cX8_signal 40 = .ok (.new 83, 3) := by decide +kernel
theorem dX8_signal_43 : decode cX8_signal 43 = .ok (.dup, 1) := by decide +kernel
theorem dX8_signal_44 : decode cX8_signal 44 = .ok (.ldc 155, 2) := by decide +kernel
theorem dX8_signal_46 : decode cX8_signal 46 = .ok (.invokespecial 87, 3) := by decide +kernel
theorem dX8_signal_49 : decode cX8_signal 49 = .ok (.athrow, 1) := by decide +kernel
theorem dX8_signal_50 : decode cX8_signal 50 = .ok (.aload_n 0, 1) := by decide +kernel
theorem dX8_signal_51 : decode cX8_signal 51 = .ok (.aload 4, 2) := by decide +kernel
theorem dX8_signal_53 : decode cX8_signal 53 = .ok (.bipush 6, 2) := by decide +kernel
theorem dX8_signal_55 : decode cX8_signal 55 = .ok (.ldc2_w 157, 3) := by decide +kernel
theorem dX8_signal_58 : decode cX8_signal 58 = .ok (.iload_n 2, 1) := by decide +kernel
theorem dX8_signal_59 : decode cX8_signal 59 = .ok (.i2l, 1) := by decide +kernel
theorem dX8_signal_60 : decode cX8_signal 60 = .ok (.lmul, 1) := by decide +kernel
theorem dX8_signal_61 : decode cX8_signal 61 = .ok (.iload_n 3, 1) := by decide +kernel
theorem dX8_signal_62 : decode cX8_signal 62 = .ok (.i2l, 1) := by decide +kernel
theorem dX8_signal_63 : decode cX8_signal 63 = .ok (.ladd, 1) := by decide +kernel
theorem dX8_signal_64 : decode cX8_signal 64 = .ok (.invokevirtual 159, 3) := by decide +kernel
theorem dX8_signal_67 : decode cX8_signal 67 = .ok (.ireturn, 1) := by decide +kernel
theorem dX8_send_0 : decode cX8_send 0 = .ok (.aload_n 1, 1) := by decide +kernel
theorem dX8_send_1 : decode cX8_send 1 = .ok (.invokevirtual 330, 3) := by decide +kernel
theorem dX8_send_4 : decode cX8_send 4 = .ok (.ifCond .ne 5, 3) := by decide +kernel
theorem dX8_send_7 : decode cX8_send 7 = .ok (.iconst 0, 1) := by decide +kernel
theorem dX8_send_8 : decode cX8_send 8 = .ok (.ireturn, 1) := by decide +kernel
theorem dX8_send_9 : decode cX8_send 9 = .ok (.aload_n 1, 1) := by decide +kernel
theorem dX8_send_10 : decode cX8_send 10 = .ok (.getfield 179, 3) := by decide +kernel
theorem dX8_send_13 : decode cX8_send 13 = .ok (.iload_n 2, 1) := by decide +kernel
theorem dX8_send_14 : decode cX8_send 14 = .ok (.lload_n 3, 1) := by decide +kernel
theorem dX8_send_15 : decode cX8_send 15 = .ok (.invokevirtual 333, 3) := by decide +kernel
theorem dX8_send_18 : decode cX8_send 18 = .ok (.aload_n 0, 1) := by decide +kernel
theorem dX8_send_19 : decode cX8_send 19 = .ok (.aload_n 1, 1) := by decide +kernel
theorem dX8_send_20 : decode cX8_send 20 = .ok (.invokevirtual 111, 3) := by decide +kernel
theorem dX8_send_23 : decode cX8_send 23 = .ok (.iconst 1, 1) := by decide +kernel
theorem dX8_send_24 : decode cX8_send 24 = .ok (.ireturn, 1) := by decide +kernel
theorem dX8_cancel_0 : decode cX8_cancel 0 = .ok (.aload_n 0, 1) := by decide +kernel
theorem dX8_cancel_1 : decode cX8_cancel 1 = .ok (.iload_n 1, 1) := by decide +kernel
theorem dX8_cancel_2 : decode cX8_cancel 2 = .ok (.invokevirtual 99, 3) := by decide +kernel
theorem dX8_cancel_5 : decode cX8_cancel 5 = .ok (.astore_n 2, 1) := by decide +kernel
theorem dX8_cancel_6 : decode cX8_cancel 6 = .ok (.aload_n 2, 1) := by decide +kernel
theorem dX8_cancel_7 : decode cX8_cancel 7 = .ok (.ifnonnull 13, 3) := by decide +kernel
theorem dX8_cancel_10 : decode cX8_cancel 10 = .ok (.new 72, 3) := by decide +kernel
theorem dX8_cancel_13 : decode cX8_cancel 13 = .ok (.dup, 1) := by decide +kernel
theorem dX8_cancel_14 : decode cX8_cancel 14 = .ok (.ldc 153, 2) := by decide +kernel
theorem dX8_cancel_16 : decode cX8_cancel 16 = .ok (.invokespecial 76, 3) := by decide +kernel
theorem dX8_cancel_19 : decode cX8_cancel 19 = .ok (.athrow, 1) := by decide +kernel
theorem dX8_cancel_20 : decode cX8_cancel 20 = .ok (.aload_n 0, 1) := by decide +kernel
theorem dX8_cancel_21 : decode cX8_cancel 21 = .ok (.aload_n 2, 1) := by decide +kernel
theorem dX8_cancel_22 : decode cX8_cancel 22 = .ok (.bipush 12, 2) := by decide +kernel
theorem dX8_cancel_24 : decode cX8_cancel 24 = .ok (.lconst 0, 1) := by decide +kernel
theorem dX8_cancel_25 : decode cX8_cancel 25 = .ok (.invokevirtual 159, 3) := by decide +kernel
theorem dX8_cancel_28 : decode cX8_cancel 28 = .ok (.ireturn, 1) := by decide +kernel
theorem dX8_reset_0 : decode cX8_reset 0 = .ok (.aload_n 0, 1) := by decide +kernel
theorem dX8_reset_1 : decode cX8_reset 1 = .ok (.iload_n 1, 1) := by decide +kernel
theorem dX8_reset_2 : decode cX8_reset 2 = .ok (.invokevirtual 99, 3) := by decide +kernel
theorem dX8_reset_5 : decode cX8_reset 5 = .ok (.astore_n 3, 1) := by decide +kernel
theorem dX8_reset_6 : decode cX8_reset 6 = .ok (.aload_n 3, 1) := by decide +kernel
theorem dX8_reset_7 : decode cX8_reset 7 = .ok (.ifnonnull 13, 3) := by decide +kernel
theorem dX8_reset_10 : decode cX8_reset 10 = .ok (.new 72, 3) := by decide +kernel
theorem dX8_reset_13 : decode cX8_reset 13 = .ok (.dup, 1) := by decide +kernel
theorem dX8_reset_14 : decode cX8_reset 14 = .ok (.ldc 153, 2) := by decide +kernel
theorem dX8_reset_16 : decode cX8_reset 16 = .ok (.invokespecial 76, 3) := by decide +kernel
theorem dX8_reset_19 : decode cX8_reset 19 = .ok (.athrow, 1) := by decide +kernel
theorem dX8_reset_20 : decode cX8_reset 20 = .ok (.iload_n 2, 1) := by decide +kernel
theorem dX8_reset_21 : decode cX8_reset 21 = .ok (.iconst 1, 1) := by decide +kernel
theorem dX8_reset_22 : decode cX8_reset 22 = .ok (.if_icmp .lt 11, 3) := by decide +kernel
theorem dX8_reset_25 : decode cX8_reset 25 = .ok (.iload_n 2, 1) := by decide +kernel
theorem dX8_reset_26 : decode cX8_reset 26 = .ok (.aload_n 3, 1) := by decide +kernel
theorem dX8_reset_27 : decode cX8_reset 27 = .ok (.invokevirtual 163, 3) := by decide +kernel
theorem dX8_reset_30 : decode cX8_reset 30 = .ok (.if_icmp .le 13, 3) := by decide +kernel
theorem dX8_reset_33 : decode cX8_reset 33 = .ok (.new 83, 3) := by decide +kernel
theorem dX8_reset_36 : decode cX8_reset 36 = .ok (.dup, 1) := by decide +kernel
theorem dX8_reset_37 : decode cX8_reset 37 = .ok (.ldc 167, 2) := by decide +kernel
theorem dX8_reset_39 : decode cX8_reset 39 = .ok (.invokespecial 87, 3) := by decide +kernel
theorem dX8_reset_42 : decode cX8_reset 42 = .ok (.athrow, 1) := by decide +kernel
theorem dX8_reset_43 : decode cX8_reset 43 = .ok (.aload_n 3, 1) := by decide +kernel
theorem dX8_reset_44 : decode cX8_reset 44 = .ok (.invokevirtual 107, 3) := by decide +kernel
theorem dX8_reset_47 : decode cX8_reset 47 = .ok (.ifCond .eq 21, 3) := by decide +kernel
theorem dX8_reset_50 : decode cX8_reset 50 = .ok (.aload_n 0, 1) := by decide +kernel
theorem dX8_reset_51 : decode cX8_reset 51 = .ok (.aload_n 3, 1) := by decide +kernel
theorem dX8_reset_52 : decode cX8_reset 52 = .ok (.iload_n 2, 1) := by decide +kernel
theorem dX8_reset_53 : decode cX8_reset 53 = .ok (.invokevirtual 169, 3) := by decide +kernel
theorem dX8_reset_56 : decode cX8_reset 56 = .ok (.ifCond .eq 12, 3) := by decide +kernel
theorem dX8_reset_59 : decode cX8_reset 59 = .ok (.aload_n 0, 1) := by decide +kernel
theorem dX8_reset_60 : decode cX8_reset 60 = .ok (.aload_n 3, 1) := by decide +kernel
theorem dX8_reset_61 : decode cX8_reset 61 = .ok (.iload_n 2, 1) := by decide +kernel
theorem dX8_reset_62 : decode cX8_reset 62 = .ok (.invokevirtual 173, 3) := by decide +kernel
theorem dX8_reset_65 : decode cX8_reset 65 = .ok (.goto 4, 3) := by decide +kernel
theorem dX8_reset_68 : decode cX8_reset 68 = .ok (.aconst_null, 1) := by decide +kernel
theorem dX8_reset_69 : decode cX8_reset 69 = .ok (.astore 4, 2) := by decide +kernel
theorem dX8_reset_71 : decode cX8_reset 71 = .ok (.aload 4, 2) := by decide +kernel
theorem dX8_reset_73 : decode cX8_reset 73 = .ok (.ifnonnull 13, 3) := by decide +kernel
theorem dX8_reset_76 : decode cX8_reset 76 = .ok (.new 145, 3) := by decide +kernel
theorem dX8_reset_79 : decode cX8_reset 79 = .ok (.dup, 1) := by decide +kernel
theorem dX8_reset_80 : decode cX8_reset 80 = .ok (.ldc 177, 2) := by decide +kernel
theorem dX8_reset_82 : decode cX8_reset 82 = .ok (.invokespecial 149, 3) := by decide +kernel
theorem dX8_reset_85 : decode cX8_reset 85 = .ok (.athrow, 1) := by decide +kernel
theorem dX8_reset_86 : decode cX8_reset 86 = .ok (.aload_n 0, 1) := by decide +kernel
theorem dX8_reset_87 : decode cX8_reset 87 = .ok (.aload 4, 2) := by decide +kernel
theorem dX8_reset_89 : decode cX8_reset 89 = .ok (.invokevirtual 111, 3) := by decide +kernel
theorem dX8_reset_92 : decode cX8_reset 92 = .ok (.iload_n 2, 1) := by decide +kernel
theorem dX8_reset_93 : decode cX8_reset 93 = .ok (.istore 5, 2) := by decide +kernel
theorem dX8_reset_95 : decode cX8_reset 95 = .ok (.iload 5, 2) := by decide +kernel
theorem dX8_reset_97 : decode cX8_reset 97 = .ok (.aload_n 3, 1) := by decide +kernel
theorem dX8_reset_98 : decode cX8_reset 98 = .ok (.getfield 179, 3) := by decide +kernel
theorem dX8_reset_101 : decode cX8_reset 101 = .ok (.invokevirtual 183, 3) := by decide +kernel
theorem dX8_reset_104 : decode cX8_reset 104 = .ok (.if_icmp .ge 41, 3) := by decide +kernel
theorem dX8_reset_107 : decode cX8_reset 107 = .ok (.aload_n 3, 1) := by decide +kernel
theorem dX8_reset_108 : decode cX8_reset 108 = .ok (.getfield 179, 3) := by decide +kernel
theorem dX8_reset_111 : decode cX8_reset 111 = .ok (.iload 5, 2) := by decide +kernel
theorem dX8_reset_113 : decode cX8_reset 113 = .ok (.invokevirtual 186, 3) := by decide +kernel
theorem dX8_reset_116 : decode cX8_reset 116 = .ok (.bipush 6, 2) := by decide +kernel
theorem dX8_reset_118 : decode cX8_reset 118 = .ok (.if_icmp .ne 21, 3) := by decide +kernel
theorem dX8_reset_121 : decode cX8_reset 121 = .ok (.aload_n 0, 1) := by decide +kernel
theorem dX8_reset_122 : decode cX8_reset 122 = .ok (.aload 4, 2) := by decide +kernel
theorem dX8_reset_124 : decode cX8_reset 124 = .ok (.bipush 6, 2) := by decide +kernel
theorem dX8_reset_126 : decode cX8_reset 126 = .ok (.aload_n 3, 1) := by decide +kernel
theorem dX8_reset_127 : decode cX8_reset 127 = .ok (.getfield 179, 3) := by decide +kernel
theorem dX8_reset_130 : decode cX8_reset 130 = .ok (.iload 5, 2) := by decide +kernel
theorem dX8_reset_132 : decode cX8_reset 132 = .ok (.invokevirtual 189, 3) := by decide +kernel
theorem dX8_reset_135 : decode cX8_reset 135 = .ok (.invokevirtual 159, 3) := by decide +kernel
theorem dX8_reset_138 : decode cX8_reset 138 = .ok (.pop, 1) := by decide +kernel
theorem dX8_reset_139 : decode cX8_reset 139 = .ok (.iinc 5 1, 3) := by decide +kernel
theorem dX8_reset_142 : decode cX8_reset 142 = .ok (.goto (-47), 3) := by decide +kernel
theorem dX8_reset_145 : decode cX8_reset 145 = .ok (.aload 4, 2) := by decide +kernel
theorem dX8_reset_147 : decode cX8_reset 147 = .ok (.getfield 150, 3) := by decide +kernel
theorem dX8_reset_150 : decode cX8_reset 150 = .ok (.ireturn, 1) := by decide +kernel
theorem dX0_eventsAheadOfEnd_0 : decode cX0_eventsAheadOfEnd 0 = .ok (.aload_n 0, 1) := by decide +kernel
theorem dX0_eventsAheadOfEnd_1 : decode cX0_eventsAheadOfEnd 1 = .ok (.invokevirtual 42, 3) := by decide +kernel
theorem dX0_eventsAheadOfEnd_4 : decode cX0_eventsAheadOfEnd 4 = .ok (.ifCond .eq 15, 3) := by decide +kernel
theorem dX0_eventsAheadOfEnd_7 : decode cX0_eventsAheadOfEnd 7 = .ok (.aload_n 0, 1) := by decide +kernel
theorem dX0_eventsAheadOfEnd_8 : decode cX0_eventsAheadOfEnd 8 = .ok (.getfield 28, 3) := by decide +kernel
theorem dX0_eventsAheadOfEnd_11 : decode cX0_eventsAheadOfEnd 11 = .ok (.invokevirtual 46, 3) := by decide +kernel
theorem dX0_eventsAheadOfEnd_14 : decode cX0_eventsAheadOfEnd 14 = .ok (.iconst 1, 1) := by decide +kernel
theorem dX0_eventsAheadOfEnd_15 : decode cX0_eventsAheadOfEnd 15 = .ok (.isub, 1) := by decide +kernel
theorem dX0_eventsAheadOfEnd_16 : decode cX0_eventsAheadOfEnd 16 = .ok (.goto 10, 3) := by decide +kernel
theorem dX0_eventsAheadOfEnd_19 : decode cX0_eventsAheadOfEnd 19 = .ok (.aload_n 0, 1) := by decide +kernel
theorem dX0_eventsAheadOfEnd_20 : decode cX0_eventsAheadOfEnd 20 = .ok (.getfield 28, 3) := by decide +kernel
theorem dX0_eventsAheadOfEnd_23 : decode cX0_eventsAheadOfEnd 23 = .ok (.invokevirtual 46, 3) := by decide +kernel
theorem dX0_eventsAheadOfEnd_26 : decode cX0_eventsAheadOfEnd 26 = .ok (.ireturn, 1) := by decide +kernel
theorem dX8_canLead_0 : decode cX8_canLead 0 = .ok (.aload_n 0, 1) := by decide +kernel
theorem dX8_canLead_1 : decode cX8_canLead 1 = .ok (.getfield 60, 3) := by decide +kernel
theorem dX8_canLead_4 : decode cX8_canLead 4 = .ok (.aload_n 1, 1) := by decide +kernel
theorem dX8_canLead_5 : decode cX8_canLead 5 = .ok (.getfield 103, 3) := by decide +kernel
theorem dX8_canLead_8 : decode cX8_canLead 8 = .ok (.aload_n 1, 1) := by decide +kernel
theorem dX8_canLead_9 : decode cX8_canLead 9 = .ok (.getfield 179, 3) := by decide +kernel
theorem dX8_canLead_12 : decode cX8_canLead 12 = .ok (.invokevirtual 286, 3) := by decide +kernel
theorem dX8_canLead_15 : decode cX8_canLead 15 = .ok (.aload_n 0, 1) := by decide +kernel
theorem dX8_canLead_16 : decode cX8_canLead 16 = .ok (.getfield 60, 3) := by decide +kernel
theorem dX8_canLead_19 : decode cX8_canLead 19 = .ok (.iload_n 2, 1) := by decide +kernel
theorem dX8_canLead_20 : decode cX8_canLead 20 = .ok (.invokevirtual 289, 3) := by decide +kernel
theorem dX8_canLead_23 : decode cX8_canLead 23 = .ok (.aload_n 0, 1) := by decide +kernel
theorem dX8_canLead_24 : decode cX8_canLead 24 = .ok (.getfield 60, 3) := by decide +kernel
theorem dX8_canLead_27 : decode cX8_canLead 27 = .ok (.getfield 133, 3) := by decide +kernel
theorem dX8_canLead_30 : decode cX8_canLead 30 = .ok (.ifCond .ne 18, 3) := by decide +kernel
theorem dX8_canLead_33 : decode cX8_canLead 33 = .ok (.aload_n 0, 1) := by decide +kernel
theorem dX8_canLead_34 : decode cX8_canLead 34 = .ok (.getfield 60, 3) := by decide +kernel
theorem dX8_canLead_37 : decode cX8_canLead 37 = .ok (.getfield 298, 3) := by decide +kernel
theorem dX8_canLead_40 : decode cX8_canLead 40 = .ok (.iconst 5, 1) := by decide +kernel
theorem dX8_canLead_41 : decode cX8_canLead 41 = .ok (.if_icmp .eq 7, 3) := by decide +kernel
theorem dX8_canLead_44 : decode cX8_canLead 44 = .ok (.iconst 1, 1) := by decide +kernel
theorem dX8_canLead_45 : decode cX8_canLead 45 = .ok (.goto 4, 3) := by decide +kernel
theorem dX8_canLead_48 : decode cX8_canLead 48 = .ok (.iconst 0, 1) := by decide +kernel
theorem dX8_canLead_49 : decode cX8_canLead 49 = .ok (.ireturn, 1) := by decide +kernel
theorem dX8_openAgain_0 : decode cX8_openAgain 0 = .ok (.aload_n 0, 1) := by decide +kernel
theorem dX8_openAgain_1 : decode cX8_openAgain 1 = .ok (.aload_n 1, 1) := by decide +kernel
theorem dX8_openAgain_2 : decode cX8_openAgain 2 = .ok (.getfield 103, 3) := by decide +kernel
theorem dX8_openAgain_5 : decode cX8_openAgain 5 = .ok (.aload_n 1, 1) := by decide +kernel
theorem dX8_openAgain_6 : decode cX8_openAgain 6 = .ok (.getfield 179, 3) := by decide +kernel
theorem dX8_openAgain_9 : decode cX8_openAgain 9 = .ok (.iconst 0, 1) := by decide +kernel
theorem dX8_openAgain_10 : decode cX8_openAgain 10 = .ok (.invokevirtual 189, 3) := by decide +kernel
theorem dX8_openAgain_13 : decode cX8_openAgain 13 = .ok (.l2i, 1) := by decide +kernel
theorem dX8_openAgain_14 : decode cX8_openAgain 14 = .ok (.iconst (-1), 1) := by decide +kernel
theorem dX8_openAgain_15 : decode cX8_openAgain 15 = .ok (.iconst (-1), 1) := by decide +kernel
theorem dX8_openAgain_16 : decode cX8_openAgain 16 = .ok (.invokevirtual 141, 3) := by decide +kernel
theorem dX8_openAgain_19 : decode cX8_openAgain 19 = .ok (.astore_n 3, 1) := by decide +kernel
theorem dX8_openAgain_20 : decode cX8_openAgain 20 = .ok (.aload_n 3, 1) := by decide +kernel
theorem dX8_openAgain_21 : decode cX8_openAgain 21 = .ok (.ifnonnull 5, 3) := by decide +kernel
theorem dX8_openAgain_24 : decode cX8_openAgain 24 = .ok (.aconst_null, 1) := by decide +kernel
theorem dX8_openAgain_25 : decode cX8_openAgain 25 = .ok (.areturn, 1) := by decide +kernel
theorem dX8_openAgain_26 : decode cX8_openAgain 26 = .ok (.iconst 1, 1) := by decide +kernel
theorem dX8_openAgain_27 : decode cX8_openAgain 27 = .ok (.istore 4, 2) := by decide +kernel
theorem dX8_openAgain_29 : decode cX8_openAgain 29 = .ok (.iload 4, 2) := by decide +kernel
theorem dX8_openAgain_31 : decode cX8_openAgain 31 = .ok (.iload_n 2, 1) := by decide +kernel
theorem dX8_openAgain_32 : decode cX8_openAgain 32 = .ok (.if_icmp .ge 34, 3) := by decide +kernel
theorem dX8_openAgain_35 : decode cX8_openAgain 35 = .ok (.aload_n 3, 1) := by decide +kernel
theorem dX8_openAgain_36 : decode cX8_openAgain 36 = .ok (.getfield 179, 3) := by decide +kernel
theorem dX8_openAgain_39 : decode cX8_openAgain 39 = .ok (.aload_n 1, 1) := by decide +kernel
theorem dX8_openAgain_40 : decode cX8_openAgain 40 = .ok (.getfield 179, 3) := by decide +kernel
theorem dX8_openAgain_43 : decode cX8_openAgain 43 = .ok (.iload 4, 2) := by decide +kernel
theorem dX8_openAgain_45 : decode cX8_openAgain 45 = .ok (.invokevirtual 186, 3) := by decide +kernel
theorem dX8_openAgain_48 : decode cX8_openAgain 48 = .ok (.aload_n 1, 1) := by decide +kernel
theorem dX8_openAgain_49 : decode cX8_openAgain 49 = .ok (.getfield 179, 3) := by decide +kernel
theorem dX8_openAgain_52 : decode cX8_openAgain 52 = .ok (.iload 4, 2) := by decide +kernel
theorem dX8_openAgain_54 : decode cX8_openAgain 54 = .ok (.invokevirtual 189, 3) := by decide +kernel
theorem dX8_openAgain_57 : decode cX8_openAgain 57 = .ok (.invokevirtual 333, 3) := by decide +kernel
theorem dX8_openAgain_60 : decode cX8_openAgain 60 = .ok (.iinc 4 1, 3) := by decide +kernel
theorem dX8_openAgain_63 : decode cX8_openAgain 63 = .ok (.goto (-34), 3) := by decide +kernel
theorem dX8_openAgain_66 : decode cX8_openAgain 66 = .ok (.aload_n 3, 1) := by decide +kernel
theorem dX8_openAgain_67 : decode cX8_openAgain 67 = .ok (.getfield 249, 3) := by decide +kernel
theorem dX8_openAgain_70 : decode cX8_openAgain 70 = .ok (.iload_n 2, 1) := by decide +kernel
theorem dX8_openAgain_71 : decode cX8_openAgain 71 = .ok (.invokevirtual 289, 3) := by decide +kernel
theorem dX8_openAgain_74 : decode cX8_openAgain 74 = .ok (.aload_n 3, 1) := by decide +kernel
theorem dX8_openAgain_75 : decode cX8_openAgain 75 = .ok (.iload_n 2, 1) := by decide +kernel
theorem dX8_openAgain_76 : decode cX8_openAgain 76 = .ok (.putfield 394, 3) := by decide +kernel
theorem dX8_openAgain_79 : decode cX8_openAgain 79 = .ok (.aload_n 3, 1) := by decide +kernel
theorem dX8_openAgain_80 : decode cX8_openAgain 80 = .ok (.getfield 249, 3) := by decide +kernel
theorem dX8_openAgain_83 : decode cX8_openAgain 83 = .ok (.invokevirtual 301, 3) := by decide +kernel
theorem dX8_openAgain_86 : decode cX8_openAgain 86 = .ok (.ifCond .eq 16, 3) := by decide +kernel
theorem dX8_openAgain_89 : decode cX8_openAgain 89 = .ok (.aload_n 0, 1) := by decide +kernel
theorem dX8_openAgain_90 : decode cX8_openAgain 90 = .ok (.aload_n 3, 1) := by decide +kernel
theorem dX8_openAgain_91 : decode cX8_openAgain 91 = .ok (.aload_n 3, 1) := by decide +kernel
theorem dX8_openAgain_92 : decode cX8_openAgain 92 = .ok (.getfield 249, 3) := by decide +kernel
theorem dX8_openAgain_95 : decode cX8_openAgain 95 = .ok (.getfield 367, 3) := by decide +kernel
theorem dX8_openAgain_98 : decode cX8_openAgain 98 = .ok (.l2i, 1) := by decide +kernel
theorem dX8_openAgain_99 : decode cX8_openAgain 99 = .ok (.invokevirtual 377, 3) := by decide +kernel
theorem dX8_openAgain_102 : decode cX8_openAgain 102 = .ok (.aload_n 3, 1) := by decide +kernel
theorem dX8_openAgain_103 : decode cX8_openAgain 103 = .ok (.areturn, 1) := by decide +kernel
theorem dX8_complete_0 : decode cX8_complete 0 = .ok (.iload_n 2, 1) := by decide +kernel
theorem dX8_complete_1 : decode cX8_complete 1 = .ok (.sipush (-999), 3) := by decide +kernel
theorem dX8_complete_4 : decode cX8_complete 4 = .ok (.if_icmp .lt 10, 3) := by decide +kernel
theorem dX8_complete_7 : decode cX8_complete 7 = .ok (.iload_n 2, 1) := by decide +kernel
theorem dX8_complete_8 : decode cX8_complete 8 = .ok (.sipush 999, 3) := by decide +kernel
theorem dX8_complete_11 : decode cX8_complete 11 = .ok (.if_icmp .le 13, 3) := by decide +kernel
theorem dX8_complete_14 : decode cX8_complete 14 = .ok (.new 83, 3) := by decide +kernel
theorem dX8_complete_17 : decode cX8_complete 17 = .ok (.dup, 1) := by decide +kernel
theorem dX8_complete_18 : decode cX8_complete 18 = .ok (.ldc 223, 2) := by decide +kernel
theorem dX8_complete_20 : decode cX8_complete 20 = .ok (.invokespecial 87, 3) := by decide +kernel
theorem dX8_complete_23 : decode cX8_complete 23 = .ok (.athrow, 1) := by decide +kernel
theorem dX8_complete_24 : decode cX8_complete 24 = .ok (.aload_n 0, 1) := by decide +kernel
theorem dX8_complete_25 : decode cX8_complete 25 = .ok (.iload_n 1, 1) := by decide +kernel
theorem dX8_complete_26 : decode cX8_complete 26 = .ok (.invokevirtual 225, 3) := by decide +kernel
theorem dX8_complete_29 : decode cX8_complete 29 = .ok (.astore_n 3, 1) := by decide +kernel
theorem dX8_complete_30 : decode cX8_complete 30 = .ok (.aload_n 3, 1) := by decide +kernel
theorem dX8_complete_31 : decode cX8_complete 31 = .ok (.ifnonnull 5, 3) := by decide +kernel
theorem dX8_complete_34 : decode cX8_complete 34 = .ok (.iconst 0, 1) := by decide +kernel
theorem dX8_complete_35 : decode cX8_complete 35 = .ok (.ireturn, 1) := by decide +kernel
theorem dX8_complete_36 : decode cX8_complete 36 = .ok (.aload_n 3, 1) := by decide +kernel
theorem dX8_complete_37 : decode cX8_complete 37 = .ok (.iconst 2, 1) := by decide +kernel
theorem dX8_complete_38 : decode cX8_complete 38 = .ok (.iload_n 2, 1) := by decide +kernel
theorem dX8_complete_39 : decode cX8_complete 39 = .ok (.invokevirtual 229, 3) := by decide +kernel
theorem dX8_complete_42 : decode cX8_complete 42 = .ok (.aload_n 0, 1) := by decide +kernel
theorem dX8_complete_43 : decode cX8_complete 43 = .ok (.aload_n 3, 1) := by decide +kernel
theorem dX8_complete_44 : decode cX8_complete 44 = .ok (.getfield 215, 3) := by decide +kernel
theorem dX8_complete_47 : decode cX8_complete 47 = .ok (.invokevirtual 111, 3) := by decide +kernel
theorem dX8_complete_50 : decode cX8_complete 50 = .ok (.iconst 1, 1) := by decide +kernel
theorem dX8_complete_51 : decode cX8_complete 51 = .ok (.ireturn, 1) := by decide +kernel
theorem dX8_tick_0 : decode cX8_tick 0 = .ok (.iload_n 1, 1) := by decide +kernel
theorem dX8_tick_1 : decode cX8_tick 1 = .ok (.iconst 1, 1) := by decide +kernel
theorem dX8_tick_2 : decode cX8_tick 2 = .ok (.if_icmp .lt 9, 3) := by decide +kernel
theorem dX8_tick_5 : decode cX8_tick 5 = .ok (.iload_n 1, 1) := by decide +kernel
theorem dX8_tick_6 : decode cX8_tick 6 = .ok (.bipush 50, 2) := by decide +kernel
theorem dX8_tick_8 : decode cX8_tick 8 = .ok (.if_icmp .le 13, 3) := by decide +kernel
theorem dX8_tick_11 : decode cX8_tick 11 = .ok (.new 83, 3) := by decide +kernel
theorem dX8_tick_14 : decode cX8_tick 14 = .ok (.dup, 1) := by decide +kernel
theorem dX8_tick_15 : decode cX8_tick 15 = .ok (.ldc 238, 2) := by decide +kernel
theorem dX8_tick_17 : decode cX8_tick 17 = .ok (.invokespecial 87, 3) := by decide +kernel
theorem dX8_tick_20 : decode cX8_tick 20 = .ok (.athrow, 1) := by decide +kernel
theorem dX8_tick_21 : decode cX8_tick 21 = .ok (.iconst 0, 1) := by decide +kernel
theorem dX8_tick_22 : decode cX8_tick 22 = .ok (.istore_n 2, 1) := by decide +kernel
theorem dX8_tick_23 : decode cX8_tick 23 = .ok (.iload_n 2, 1) := by decide +kernel
theorem dX8_tick_24 : decode cX8_tick 24 = .ok (.iload_n 1, 1) := by decide +kernel
theorem dX8_tick_25 : decode cX8_tick 25 = .ok (.if_icmp .ge 27, 3) := by decide +kernel
theorem dX8_tick_28 : decode cX8_tick 28 = .ok (.aload_n 0, 1) := by decide +kernel
theorem dX8_tick_29 : decode cX8_tick 29 = .ok (.dup, 1) := by decide +kernel
theorem dX8_tick_30 : decode cX8_tick 30 = .ok (.getfield 206, 3) := by decide +kernel
theorem dX8_tick_33 : decode cX8_tick 33 = .ok (.iconst 1, 1) := by decide +kernel
theorem dX8_tick_34 : decode cX8_tick 34 = .ok (.iadd, 1) := by decide +kernel
theorem dX8_tick_35 : decode cX8_tick 35 = .ok (.putfield 206, 3) := by decide +kernel
theorem dX8_tick_38 : decode cX8_tick 38 = .ok (.aload_n 0, 1) := by decide +kernel
theorem dX8_tick_39 : decode cX8_tick 39 = .ok (.invokevirtual 240, 3) := by decide +kernel
theorem dX8_tick_42 : decode cX8_tick 42 = .ok (.aload_n 0, 1) := by decide +kernel
theorem dX8_tick_43 : decode cX8_tick 43 = .ok (.invokevirtual 243, 3) := by decide +kernel
theorem dX8_tick_46 : decode cX8_tick 46 = .ok (.iinc 2 1, 3) := by decide +kernel
theorem dX8_tick_49 : decode cX8_tick 49 = .ok (.goto (-26), 3) := by decide +kernel
theorem dX8_tick_52 : decode cX8_tick 52 = .ok (.aload_n 0, 1) := by decide +kernel
theorem dX8_tick_53 : decode cX8_tick 53 = .ok (.getfield 206, 3) := by decide +kernel
theorem dX8_tick_56 : decode cX8_tick 56 = .ok (.ireturn, 1) := by decide +kernel
theorem dX8_passTasks_0 : decode cX8_passTasks 0 = .ok (.iconst 0, 1) := by decide +kernel
theorem dX8_passTasks_1 : decode cX8_passTasks 1 = .ok (.istore_n 1, 1) := by decide +kernel
theorem dX8_passTasks_2 : decode cX8_passTasks 2 = .ok (.iload_n 1, 1) := by decide +kernel
theorem dX8_passTasks_3 : decode cX8_passTasks 3 = .ok (.aload_n 0, 1) := by decide +kernel
theorem dX8_passTasks_4 : decode cX8_passTasks 4 = .ok (.getfield 28, 3) := by decide +kernel
theorem dX8_passTasks_7 : decode cX8_passTasks 7 = .ok (.invokevirtual 264, 3) := by decide +kernel
theorem dX8_passTasks_10 : decode cX8_passTasks 10 = .ok (.if_icmp .ge 46, 3) := by decide +kernel
theorem dX8_passTasks_13 : decode cX8_passTasks 13 = .ok (.aload_n 0, 1) := by decide +kernel
theorem dX8_passTasks_14 : decode cX8_passTasks 14 = .ok (.iload_n 1, 1) := by decide +kernel
theorem dX8_passTasks_15 : decode cX8_passTasks 15 = .ok (.invokevirtual 265, 3) := by decide +kernel
theorem dX8_passTasks_18 : decode cX8_passTasks 18 = .ok (.astore_n 2, 1) := by decide +kernel
theorem dX8_passTasks_19 : decode cX8_passTasks 19 = .ok (.aload_n 2, 1) := by decide +kernel
theorem dX8_passTasks_20 : decode cX8_passTasks 20 = .ok (.ifnull 30, 3) := by decide +kernel
theorem dX8_passTasks_23 : decode cX8_passTasks 23 = .ok (.aload_n 2, 1) := by decide +kernel
theorem dX8_passTasks_24 : decode cX8_passTasks 24 = .ok (.aload_n 0, 1) := by decide +kernel
theorem dX8_passTasks_25 : decode cX8_passTasks 25 = .ok (.getfield 206, 3) := by decide +kernel
theorem dX8_passTasks_28 : decode cX8_passTasks 28 = .ok (.invokevirtual 420, 3) := by decide +kernel
theorem dX8_passTasks_31 : decode cX8_passTasks 31 = .ok (.ifCond .eq 19, 3) := by decide +kernel
theorem dX8_passTasks_34 : decode cX8_passTasks 34 = .ok (.aload_n 2, 1) := by decide +kernel
theorem dX8_passTasks_35 : decode cX8_passTasks 35 = .ok (.aload_n 0, 1) := by decide +kernel
theorem dX8_passTasks_36 : decode cX8_passTasks 36 = .ok (.getfield 206, 3) := by decide +kernel
theorem dX8_passTasks_39 : decode cX8_passTasks 39 = .ok (.invokevirtual 423, 3) := by decide +kernel
theorem dX8_passTasks_42 : decode cX8_passTasks 42 = .ok (.aload_n 0, 1) := by decide +kernel
theorem dX8_passTasks_43 : decode cX8_passTasks 43 = .ok (.aload_n 2, 1) := by decide +kernel
theorem dX8_passTasks_44 : decode cX8_passTasks 44 = .ok (.getfield 215, 3) := by decide +kernel
theorem dX8_passTasks_47 : decode cX8_passTasks 47 = .ok (.invokevirtual 111, 3) := by decide +kernel
theorem dX8_passTasks_50 : decode cX8_passTasks 50 = .ok (.iinc 1 1, 3) := by decide +kernel
theorem dX8_passTasks_53 : decode cX8_passTasks 53 = .ok (.goto (-51), 3) := by decide +kernel
theorem dX8_passTasks_56 : decode cX8_passTasks 56 = .ok (.return_, 1) := by decide +kernel
theorem dX8_taskAt_0 : decode cX8_taskAt 0 = .ok (.iload_n 1, 1) := by decide +kernel
theorem dX8_taskAt_1 : decode cX8_taskAt 1 = .ok (.ifCond .lt 28, 3) := by decide +kernel
theorem dX8_taskAt_4 : decode cX8_taskAt 4 = .ok (.iload_n 1, 1) := by decide +kernel
theorem dX8_taskAt_5 : decode cX8_taskAt 5 = .ok (.aload_n 0, 1) := by decide +kernel
theorem dX8_taskAt_6 : decode cX8_taskAt 6 = .ok (.getfield 28, 3) := by decide +kernel
theorem dX8_taskAt_9 : decode cX8_taskAt 9 = .ok (.invokevirtual 264, 3) := by decide +kernel
theorem dX8_taskAt_12 : decode cX8_taskAt 12 = .ok (.if_icmp .ge 17, 3) := by decide +kernel
theorem dX8_taskAt_15 : decode cX8_taskAt 15 = .ok (.aload_n 0, 1) := by decide +kernel
theorem dX8_taskAt_16 : decode cX8_taskAt 16 = .ok (.getfield 28, 3) := by decide +kernel
theorem dX8_taskAt_19 : decode cX8_taskAt 19 = .ok (.iload_n 1, 1) := by decide +kernel
theorem dX8_taskAt_20 : decode cX8_taskAt 20 = .ok (.invokevirtual 272, 3) := by decide +kernel
theorem dX8_taskAt_23 : decode cX8_taskAt 23 = .ok (.checkcast 210, 3) := by decide +kernel
theorem dX8_taskAt_26 : decode cX8_taskAt 26 = .ok (.goto 4, 3) := by decide +kernel
theorem dX8_taskAt_29 : decode cX8_taskAt 29 = .ok (.aconst_null, 1) := by decide +kernel
theorem dX8_taskAt_30 : decode cX8_taskAt 30 = .ok (.areturn, 1) := by decide +kernel
theorem dJx4a65c_get_915e3_0 : decode cJx4a65c_get_915e3 0 = .ok (.iload_n 1, 1) := by decide +kernel
theorem dJx4a65c_get_915e3_1 : decode cJx4a65c_get_915e3 1 = .ok (.aload_n 0, 1) := by decide +kernel
theorem dJx4a65c_get_915e3_2 : decode cJx4a65c_get_915e3 2 = .ok (.getfield 48, 3) := by decide +kernel
theorem dJx4a65c_get_915e3_5 : decode cJx4a65c_get_915e3 5 = .ok (.invokestatic 118, 3) := by decide +kernel
theorem dJx4a65c_get_915e3_8 : decode cJx4a65c_get_915e3 8 = .ok (.pop, 1) := by decide +kernel
theorem dJx4a65c_get_915e3_9 : decode cJx4a65c_get_915e3 9 = .ok (.aload_n 0, 1) := by decide +kernel
theorem dJx4a65c_get_915e3_10 : decode cJx4a65c_get_915e3 10 = .ok (.iload_n 1, 1) := by decide +kernel
theorem dJx4a65c_get_915e3_11 : decode cJx4a65c_get_915e3 11 = .ok (.invokevirtual 123, 3) := by decide +kernel
theorem dJx4a65c_get_915e3_14 : decode cJx4a65c_get_915e3 14 = .ok (.areturn, 1) := by decide +kernel
theorem dJ15_checkIndex_7cf53_0 : decode cJ15_checkIndex_7cf53 0 = .ok (.iload_n 0, 1) := by decide +kernel
theorem dJ15_checkIndex_7cf53_1 : decode cJ15_checkIndex_7cf53 1 = .ok (.iload_n 1, 1) := by decide +kernel
theorem dJ15_checkIndex_7cf53_2 : decode cJ15_checkIndex_7cf53 2 = .ok (.aconst_null, 1) := by decide +kernel
theorem dJ15_checkIndex_7cf53_3 : decode cJ15_checkIndex_7cf53 3 = .ok (.invokestatic 105, 3) := by decide +kernel
theorem dJ15_checkIndex_7cf53_6 : decode cJ15_checkIndex_7cf53 6 = .ok (.ireturn, 1) := by decide +kernel
theorem dJ3_checkIndex_8e157_0 : decode cJ3_checkIndex_8e157 0 = .ok (.iload_n 0, 1) := by decide +kernel
theorem dJ3_checkIndex_8e157_1 : decode cJ3_checkIndex_8e157 1 = .ok (.ifCond .lt 8, 3) := by decide +kernel
theorem dJ3_checkIndex_8e157_4 : decode cJ3_checkIndex_8e157 4 = .ok (.iload_n 0, 1) := by decide +kernel
theorem dJ3_checkIndex_8e157_5 : decode cJ3_checkIndex_8e157 5 = .ok (.iload_n 1, 1) := by decide +kernel
theorem dJ3_checkIndex_8e157_6 : decode cJ3_checkIndex_8e157 6 = .ok (.if_icmp .lt 10, 3) := by decide +kernel
theorem dJ3_checkIndex_8e157_9 : decode cJ3_checkIndex_8e157 9 = .ok (.aload_n 2, 1) := by decide +kernel
theorem dJ3_checkIndex_8e157_10 : decode cJ3_checkIndex_8e157 10 = .ok (.iload_n 0, 1) := by decide +kernel
theorem dJ3_checkIndex_8e157_11 : decode cJ3_checkIndex_8e157 11 = .ok (.iload_n 1, 1) := by decide +kernel
theorem dJ3_checkIndex_8e157_12 : decode cJ3_checkIndex_8e157 12 = .ok (.invokestatic 95, 3) := by decide +kernel
theorem dJ3_checkIndex_8e157_15 : decode cJ3_checkIndex_8e157 15 = .ok (.athrow, 1) := by decide +kernel
theorem dJ3_checkIndex_8e157_16 : decode cJ3_checkIndex_8e157 16 = .ok (.iload_n 0, 1) := by decide +kernel
theorem dJ3_checkIndex_8e157_17 : decode cJ3_checkIndex_8e157 17 = .ok (.ireturn, 1) := by decide +kernel
theorem dJx4a65c_elementData_915e3_0 : decode cJx4a65c_elementData_915e3 0 = .ok (.aload_n 0, 1) := by decide +kernel
theorem dJx4a65c_elementData_915e3_1 : decode cJx4a65c_elementData_915e3 1 = .ok (.getfield 9, 3) := by decide +kernel
theorem dJx4a65c_elementData_915e3_4 : decode cJx4a65c_elementData_915e3 4 = .ok (.iload_n 1, 1) := by decide +kernel
theorem dJx4a65c_elementData_915e3_5 : decode cJx4a65c_elementData_915e3 5 = .ok (.aaload, 1) := by decide +kernel
theorem dJx4a65c_elementData_915e3_6 : decode cJx4a65c_elementData_915e3 6 = .ok (.areturn, 1) := by decide +kernel
theorem dX7_isDue_0 : decode cX7_isDue 0 = .ok (.aload_n 0, 1) := by decide +kernel
theorem dX7_isDue_1 : decode cX7_isDue 1 = .ok (.getfield 9, 3) := by decide +kernel
theorem dX7_isDue_4 : decode cX7_isDue 4 = .ok (.iconst 1, 1) := by decide +kernel
theorem dX7_isDue_5 : decode cX7_isDue 5 = .ok (.if_icmp .eq 11, 3) := by decide +kernel
theorem dX7_isDue_8 : decode cX7_isDue 8 = .ok (.aload_n 0, 1) := by decide +kernel
theorem dX7_isDue_9 : decode cX7_isDue 9 = .ok (.getfield 9, 3) := by decide +kernel
theorem dX7_isDue_12 : decode cX7_isDue 12 = .ok (.iconst 2, 1) := by decide +kernel
theorem dX7_isDue_13 : decode cX7_isDue 13 = .ok (.if_icmp .ne 28, 3) := by decide +kernel
theorem dX7_isDue_16 : decode cX7_isDue 16 = .ok (.aload_n 0, 1) := by decide +kernel
theorem dX7_isDue_17 : decode cX7_isDue 17 = .ok (.getfield 34, 3) := by decide +kernel
theorem dX7_isDue_20 : decode cX7_isDue 20 = .ok (.iload_n 1, 1) := by decide +kernel
theorem dX7_isDue_21 : decode cX7_isDue 21 = .ok (.if_icmp .gt 20, 3) := by decide +kernel
theorem dX7_isDue_24 : decode cX7_isDue 24 = .ok (.aload_n 0, 1) := by decide +kernel
theorem dX7_isDue_25 : decode cX7_isDue 25 = .ok (.getfield 18, 3) := by decide +kernel
theorem dX7_isDue_28 : decode cX7_isDue 28 = .ok (.getfield 58, 3) := by decide +kernel
theorem dX7_isDue_31 : decode cX7_isDue 31 = .ok (.getfield 62, 3) := by decide +kernel
theorem dX7_isDue_34 : decode cX7_isDue 34 = .ok (.ifCond .ne 7, 3) := by decide +kernel
theorem dX7_isDue_37 : decode cX7_isDue 37 = .ok (.iconst 1, 1) := by decide +kernel
theorem dX7_isDue_38 : decode cX7_isDue 38 = .ok (.goto 4, 3) := by decide +kernel
theorem dX7_isDue_41 : decode cX7_isDue 41 = .ok (.iconst 0, 1) := by decide +kernel
theorem dX7_isDue_42 : decode cX7_isDue 42 = .ok (.ireturn, 1) := by decide +kernel
theorem dX7_pass_0 : decode cX7_pass 0 = .ok (.aload_n 0, 1) := by decide +kernel
theorem dX7_pass_1 : decode cX7_pass 1 = .ok (.getfield 9, 3) := by decide +kernel
theorem dX7_pass_4 : decode cX7_pass 4 = .ok (.iconst 1, 1) := by decide +kernel
theorem dX7_pass_5 : decode cX7_pass 5 = .ok (.if_icmp .ne 9, 3) := by decide +kernel
theorem dX7_pass_8 : decode cX7_pass 8 = .ok (.aload_n 0, 1) := by decide +kernel
theorem dX7_pass_9 : decode cX7_pass 9 = .ok (.iload_n 1, 1) := by decide +kernel
theorem dX7_pass_10 : decode cX7_pass 10 = .ok (.invokevirtual 68, 3) := by decide +kernel
theorem dX7_pass_13 : decode cX7_pass 13 = .ok (.return_, 1) := by decide +kernel
theorem dX7_pass_14 : decode cX7_pass 14 = .ok (.aload_n 0, 1) := by decide +kernel
theorem dX7_pass_15 : decode cX7_pass 15 = .ok (.iconst 0, 1) := by decide +kernel
theorem dX7_pass_16 : decode cX7_pass 16 = .ok (.putfield 9, 3) := by decide +kernel
theorem dX7_pass_19 : decode cX7_pass 19 = .ok (.aload_n 0, 1) := by decide +kernel
theorem dX7_pass_20 : decode cX7_pass 20 = .ok (.iconst 0, 1) := by decide +kernel
theorem dX7_pass_21 : decode cX7_pass 21 = .ok (.putfield 34, 3) := by decide +kernel
theorem dX7_pass_24 : decode cX7_pass 24 = .ok (.return_, 1) := by decide +kernel
theorem dX8_passTimers_0 : decode cX8_passTimers 0 = .ok (.iconst 0, 1) := by decide +kernel
theorem dX8_passTimers_1 : decode cX8_passTimers 1 = .ok (.istore_n 1, 1) := by decide +kernel
theorem dX8_passTimers_2 : decode cX8_passTimers 2 = .ok (.iload_n 1, 1) := by decide +kernel
theorem dX8_passTimers_3 : decode cX8_passTimers 3 = .ok (.aload_n 0, 1) := by decide +kernel
theorem dX8_passTimers_4 : decode cX8_passTimers 4 = .ok (.getfield 96, 3) := by decide +kernel
theorem dX8_passTimers_7 : decode cX8_passTimers 7 = .ok (.if_icmp .ge 47, 3) := by decide +kernel
theorem dX8_passTimers_10 : decode cX8_passTimers 10 = .ok (.aload_n 0, 1) := by decide +kernel
theorem dX8_passTimers_11 : decode cX8_passTimers 11 = .ok (.iload_n 1, 1) := by decide +kernel
theorem dX8_passTimers_12 : decode cX8_passTimers 12 = .ok (.invokevirtual 99, 3) := by decide +kernel
theorem dX8_passTimers_15 : decode cX8_passTimers 15 = .ok (.astore_n 2, 1) := by decide +kernel
theorem dX8_passTimers_16 : decode cX8_passTimers 16 = .ok (.aload_n 2, 1) := by decide +kernel
theorem dX8_passTimers_17 : decode cX8_passTimers 17 = .ok (.ifnull 31, 3) := by decide +kernel
theorem dX8_passTimers_20 : decode cX8_passTimers 20 = .ok (.aload_n 2, 1) := by decide +kernel
theorem dX8_passTimers_21 : decode cX8_passTimers 21 = .ok (.getfield 249, 3) := by decide +kernel
theorem dX8_passTimers_24 : decode cX8_passTimers 24 = .ok (.aload_n 0, 1) := by decide +kernel
theorem dX8_passTimers_25 : decode cX8_passTimers 25 = .ok (.getfield 206, 3) := by decide +kernel
theorem dX8_passTimers_28 : decode cX8_passTimers 28 = .ok (.invokevirtual 426, 3) := by decide +kernel
theorem dX8_passTimers_31 : decode cX8_passTimers 31 = .ok (.ifCond .eq 17, 3) := by decide +kernel
theorem dX8_passTimers_34 : decode cX8_passTimers 34 = .ok (.aload_n 2, 1) := by decide +kernel
theorem dX8_passTimers_35 : decode cX8_passTimers 35 = .ok (.getfield 179, 3) := by decide +kernel
theorem dX8_passTimers_38 : decode cX8_passTimers 38 = .ok (.iconst 5, 1) := by decide +kernel
theorem dX8_passTimers_39 : decode cX8_passTimers 39 = .ok (.lconst 0, 1) := by decide +kernel
theorem dX8_passTimers_40 : decode cX8_passTimers 40 = .ok (.invokevirtual 333, 3) := by decide +kernel
theorem dX8_passTimers_43 : decode cX8_passTimers 43 = .ok (.aload_n 0, 1) := by decide +kernel
theorem dX8_passTimers_44 : decode cX8_passTimers 44 = .ok (.aload_n 2, 1) := by decide +kernel
theorem dX8_passTimers_45 : decode cX8_passTimers 45 = .ok (.invokevirtual 111, 3) := by decide +kernel
theorem dX8_passTimers_48 : decode cX8_passTimers 48 = .ok (.iinc 1 1, 3) := by decide +kernel
theorem dX8_passTimers_51 : decode cX8_passTimers 51 = .ok (.goto (-49), 3) := by decide +kernel
theorem dX8_passTimers_54 : decode cX8_passTimers 54 = .ok (.return_, 1) := by decide +kernel
theorem dX5_isDue_0 : decode cX5_isDue 0 = .ok (.aload_n 0, 1) := by decide +kernel
theorem dX5_isDue_1 : decode cX5_isDue 1 = .ok (.getfield 91, 3) := by decide +kernel
theorem dX5_isDue_4 : decode cX5_isDue 4 = .ok (.ifCond .ne 33, 3) := by decide +kernel
theorem dX5_isDue_7 : decode cX5_isDue 7 = .ok (.aload_n 0, 1) := by decide +kernel
theorem dX5_isDue_8 : decode cX5_isDue 8 = .ok (.getfield 56, 3) := by decide +kernel
theorem dX5_isDue_11 : decode cX5_isDue 11 = .ok (.iconst 2, 1) := by decide +kernel
theorem dX5_isDue_12 : decode cX5_isDue 12 = .ok (.if_icmp .eq 11, 3) := by decide +kernel
theorem dX5_isDue_15 : decode cX5_isDue 15 = .ok (.aload_n 0, 1) := by decide +kernel
theorem dX5_isDue_16 : decode cX5_isDue 16 = .ok (.getfield 56, 3) := by decide +kernel
theorem dX5_isDue_19 : decode cX5_isDue 19 = .ok (.iconst 4, 1) := by decide +kernel
theorem dX5_isDue_20 : decode cX5_isDue 20 = .ok (.if_icmp .ne 17, 3) := by decide +kernel
theorem dX5_isDue_23 : decode cX5_isDue 23 = .ok (.aload_n 0, 1) := by decide +kernel
theorem dX5_isDue_24 : decode cX5_isDue 24 = .ok (.getfield 65, 3) := by decide +kernel
theorem dX5_isDue_27 : decode cX5_isDue 27 = .ok (.iload_n 1, 1) := by decide +kernel
theorem dX5_isDue_28 : decode cX5_isDue 28 = .ok (.i2l, 1) := by decide +kernel
theorem dX5_isDue_29 : decode cX5_isDue 29 = .ok (.lcmp, 1) := by decide +kernel
theorem dX5_isDue_30 : decode cX5_isDue 30 = .ok (.ifCond .gt 7, 3) := by decide +kernel
theorem dX5_isDue_33 : decode cX5_isDue 33 = .ok (.iconst 1, 1) := by decide +kernel
theorem dX5_isDue_34 : decode cX5_isDue 34 = .ok (.goto 4, 3) := by decide +kernel
theorem dX5_isDue_37 : decode cX5_isDue 37 = .ok (.iconst 0, 1) := by decide +kernel
theorem dX5_isDue_38 : decode cX5_isDue 38 = .ok (.ireturn, 1) := by decide +kernel
theorem dX8_state_0 : decode cX8_state 0 = .ok (.aload_n 0, 1) := by decide +kernel
theorem dX8_state_1 : decode cX8_state 1 = .ok (.iload_n 1, 1) := by decide +kernel
theorem dX8_state_2 : decode cX8_state 2 = .ok (.invokevirtual 99, 3) := by decide +kernel
theorem dX8_state_5 : decode cX8_state 5 = .ok (.astore_n 2, 1) := by decide +kernel
theorem dX8_state_6 : decode cX8_state 6 = .ok (.aload_n 2, 1) := by decide +kernel
theorem dX8_state_7 : decode cX8_state 7 = .ok (.ifnonnull 13, 3) := by decide +kernel
theorem dX8_state_10 : decode cX8_state 10 = .ok (.new 72, 3) := by decide +kernel
theorem dX8_state_13 : decode cX8_state 13 = .ok (.dup, 1) := by decide +kernel
theorem dX8_state_14 : decode cX8_state 14 = .ok (.ldc 153, 2) := by decide +kernel
theorem dX8_state_16 : decode cX8_state 16 = .ok (.invokespecial 76, 3) := by decide +kernel
theorem dX8_state_19 : decode cX8_state 19 = .ok (.athrow, 1) := by decide +kernel
theorem dX8_state_20 : decode cX8_state 20 = .ok (.aload_n 2, 1) := by decide +kernel
theorem dX8_state_21 : decode cX8_state 21 = .ok (.invokevirtual 107, 3) := by decide +kernel
theorem dX8_state_24 : decode cX8_state 24 = .ok (.ifCond .eq 11, 3) := by decide +kernel
theorem dX8_state_27 : decode cX8_state 27 = .ok (.aload_n 2, 1) := by decide +kernel
theorem dX8_state_28 : decode cX8_state 28 = .ok (.getfield 179, 3) := by decide +kernel
theorem dX8_state_31 : decode cX8_state 31 = .ok (.invokevirtual 246, 3) := by decide +kernel
theorem dX8_state_34 : decode cX8_state 34 = .ok (.ireturn, 1) := by decide +kernel
theorem dX8_state_35 : decode cX8_state 35 = .ok (.aload_n 2, 1) := by decide +kernel
theorem dX8_state_36 : decode cX8_state 36 = .ok (.getfield 249, 3) := by decide +kernel
theorem dX8_state_39 : decode cX8_state 39 = .ok (.getfield 133, 3) := by decide +kernel
theorem dX8_state_42 : decode cX8_state 42 = .ok (.ifCond .eq 7, 3) := by decide +kernel
theorem dX8_state_45 : decode cX8_state 45 = .ok (.iconst 5, 1) := by decide +kernel
theorem dX8_state_46 : decode cX8_state 46 = .ok (.goto 4, 3) := by decide +kernel
theorem dX8_state_49 : decode cX8_state 49 = .ok (.iconst 0, 1) := by decide +kernel
theorem dX8_state_50 : decode cX8_state 50 = .ok (.ireturn, 1) := by decide +kernel
theorem dX8_about_0 : decode cX8_about 0 = .ok (.aload_n 0, 1) := by decide +kernel
theorem dX8_about_1 : decode cX8_about 1 = .ok (.iload_n 1, 1) := by decide +kernel
theorem dX8_about_2 : decode cX8_about 2 = .ok (.invokevirtual 99, 3) := by decide +kernel
theorem dX8_about_5 : decode cX8_about 5 = .ok (.astore_n 3, 1) := by decide +kernel
theorem dX8_about_6 : decode cX8_about 6 = .ok (.aload_n 3, 1) := by decide +kernel
theorem dX8_about_7 : decode cX8_about 7 = .ok (.ifnonnull 13, 3) := by decide +kernel
theorem dX8_about_10 : decode cX8_about 10 = .ok (.new 72, 3) := by decide +kernel
theorem dX8_about_13 : decode cX8_about 13 = .ok (.dup, 1) := by decide +kernel
theorem dX8_about_14 : decode cX8_about 14 = .ok (.ldc 153, 2) := by decide +kernel
theorem dX8_about_16 : decode cX8_about 16 = .ok (.invokespecial 76, 3) := by decide +kernel
theorem dX8_about_19 : decode cX8_about 19 = .ok (.athrow, 1) := by decide +kernel
theorem dX8_about_20 : decode cX8_about 20 = .ok (.iload_n 2, 1) := by decide +kernel
theorem dX8_about_21 : decode cX8_about 21 = .ok (.bipush 9, 2) := by decide +kernel
theorem dX8_about_23 : decode cX8_about 23 = .ok (.invokestatic 68, 3) := by decide +kernel
theorem dX8_about_26 : decode cX8_about 26 = .ok (.ifCond .ne 13, 3) := by decide +kernel
theorem dX8_about_29 : decode cX8_about 29 = .ok (.new 83, 3) := by decide +kernel
theorem dX8_about_32 : decode cX8_about 32 = .ok (.dup, 1) := by decide +kernel
theorem dX8_about_33 : decode cX8_about 33 = .ok (.ldc 251, 2) := by decide +kernel
theorem dX8_about_35 : decode cX8_about 35 = .ok (.invokespecial 87, 3) := by decide +kernel
theorem dX8_about_38 : decode cX8_about 38 = .ok (.athrow, 1) := by decide +kernel
theorem dX8_about_39 : decode cX8_about 39 = .ok (.aload_n 3, 1) := by decide +kernel
theorem dX8_about_40 : decode cX8_about 40 = .ok (.invokevirtual 107, 3) := by decide +kernel
theorem dX8_about_43 : decode cX8_about 43 = .ok (.ifCond .eq 11, 3) := by decide +kernel
theorem dX8_about_46 : decode cX8_about 46 = .ok (.aload_n 0, 1) := by decide +kernel
theorem dX8_about_47 : decode cX8_about 47 = .ok (.aload_n 3, 1) := by decide +kernel
theorem dX8_about_48 : decode cX8_about 48 = .ok (.invokevirtual 129, 3) := by decide +kernel
theorem dX8_about_51 : decode cX8_about 51 = .ok (.goto 7, 3) := by decide +kernel
theorem dX8_about_54 : decode cX8_about 54 = .ok (.aload_n 3, 1) := by decide +kernel
theorem dX8_about_55 : decode cX8_about 55 = .ok (.getfield 249, 3) := by decide +kernel
theorem dX8_about_58 : decode cX8_about 58 = .ok (.astore 4, 2) := by decide +kernel
theorem dX8_about_60 : decode cX8_about 60 = .ok (.aload 4, 2) := by decide +kernel
theorem dX8_about_62 : decode cX8_about 62 = .ok (.getfield 133, 3) := by decide +kernel
theorem dX8_about_65 : decode cX8_about 65 = .ok (.ifCond .eq 13, 3) := by decide +kernel
theorem dX8_about_68 : decode cX8_about 68 = .ok (.new 145, 3) := by decide +kernel
theorem dX8_about_71 : decode cX8_about 71 = .ok (.dup, 1) := by decide +kernel
theorem dX8_about_72 : decode cX8_about 72 = .ok (.ldc 253, 2) := by decide +kernel
theorem dX8_about_74 : decode cX8_about 74 = .ok (.invokespecial 149, 3) := by decide +kernel
theorem dX8_about_77 : decode cX8_about 77 = .ok (.athrow, 1) := by decide +kernel
theorem dX8_about_78 : decode cX8_about 78 = .ok (.aload_n 0, 1) := by decide +kernel
theorem dX8_about_79 : decode cX8_about 79 = .ok (.aload_n 3, 1) := by decide +kernel
theorem dX8_about_80 : decode cX8_about 80 = .ok (.aload 4, 2) := by decide +kernel
theorem dX8_about_82 : decode cX8_about 82 = .ok (.iload_n 2, 1) := by decide +kernel
theorem dX8_about_83 : decode cX8_about 83 = .ok (.invokevirtual 255, 3) := by decide +kernel
theorem dX8_about_86 : decode cX8_about 86 = .ok (.ireturn, 1) := by decide +kernel
theorem dX8_fact_0 : decode cX8_fact 0 = .ok (.iload_n 3, 1) := by decide +kernel
theorem dX8_fact_1 : decode cX8_fact 1 = .ok (.tableswitch 142 0 7 #[47, 55, 60, 65, 70, 105, 113, 126], 47) := by decide +kernel
theorem dX8_fact_48 : decode cX8_fact 48 = .ok (.aload_n 1, 1) := by decide +kernel
theorem dX8_fact_49 : decode cX8_fact 49 = .ok (.getfield 103, 3) := by decide +kernel
theorem dX8_fact_52 : decode cX8_fact 52 = .ok (.getfield 219, 3) := by decide +kernel
theorem dX8_fact_55 : decode cX8_fact 55 = .ok (.ireturn, 1) := by decide +kernel
theorem dX8_fact_56 : decode cX8_fact 56 = .ok (.aload_n 2, 1) := by decide +kernel
theorem dX8_fact_57 : decode cX8_fact 57 = .ok (.getfield 292, 3) := by decide +kernel
theorem dX8_fact_60 : decode cX8_fact 60 = .ok (.ireturn, 1) := by decide +kernel
theorem dX8_fact_61 : decode cX8_fact 61 = .ok (.aload_n 2, 1) := by decide +kernel
theorem dX8_fact_62 : decode cX8_fact 62 = .ok (.getfield 295, 3) := by decide +kernel
theorem dX8_fact_65 : decode cX8_fact 65 = .ok (.ireturn, 1) := by decide +kernel
theorem dX8_fact_66 : decode cX8_fact 66 = .ok (.aload_n 2, 1) := by decide +kernel
theorem dX8_fact_67 : decode cX8_fact 67 = .ok (.getfield 298, 3) := by decide +kernel
theorem dX8_fact_70 : decode cX8_fact 70 = .ok (.ireturn, 1) := by decide +kernel
theorem dX8_fact_71 : decode cX8_fact 71 = .ok (.aload_n 2, 1) := by decide +kernel
theorem dX8_fact_72 : decode cX8_fact 72 = .ok (.invokevirtual 301, 3) := by decide +kernel
theorem dX8_fact_75 : decode cX8_fact 75 = .ok (.ifCond .eq 10, 3) := by decide +kernel
theorem dX8_fact_78 : decode cX8_fact 78 = .ok (.aload_n 1, 1) := by decide +kernel
theorem dX8_fact_79 : decode cX8_fact 79 = .ok (.getfield 276, 3) := by decide +kernel
theorem dX8_fact_82 : decode cX8_fact 82 = .ok (.goto 4, 3) := by decide +kernel
theorem dX8_fact_85 : decode cX8_fact 85 = .ok (.aconst_null, 1) := by decide +kernel
theorem dX8_fact_86 : decode cX8_fact 86 = .ok (.astore 4, 2) := by decide +kernel
theorem dX8_fact_88 : decode cX8_fact 88 = .ok (.aload 4, 2) := by decide +kernel
theorem dX8_fact_90 : decode cX8_fact 90 = .ok (.ifnull 11, 3) := by decide +kernel
theorem dX8_fact_93 : decode cX8_fact 93 = .ok (.aload 4, 2) := by decide +kernel
theorem dX8_fact_95 : decode cX8_fact 95 = .ok (.getfield 304, 3) := by decide +kernel
theorem dX8_fact_98 : decode cX8_fact 98 = .ok (.goto 7, 3) := by decide +kernel
theorem dX8_fact_101 : decode cX8_fact 101 = .ok (.aload_n 2, 1) := by decide +kernel
theorem dX8_fact_102 : decode cX8_fact 102 = .ok (.invokevirtual 305, 3) := by decide +kernel
theorem dX8_fact_105 : decode cX8_fact 105 = .ok (.ireturn, 1) := by decide +kernel
theorem dX8_fact_106 : decode cX8_fact 106 = .ok (.aload_n 2, 1) := by decide +kernel
theorem dX8_fact_107 : decode cX8_fact 107 = .ok (.getfield 308, 3) := by decide +kernel
theorem dX8_fact_110 : decode cX8_fact 110 = .ok (.invokevirtual 312, 3) := by decide +kernel
theorem dX8_fact_113 : decode cX8_fact 113 = .ok (.ireturn, 1) := by decide +kernel
theorem dX8_fact_114 : decode cX8_fact 114 = .ok (.aload_n 2, 1) := by decide +kernel
theorem dX8_fact_115 : decode cX8_fact 115 = .ok (.getfield 315, 3) := by decide +kernel
theorem dX8_fact_118 : decode cX8_fact 118 = .ok (.ifCond .eq 7, 3) := by decide +kernel
theorem dX8_fact_121 : decode cX8_fact 121 = .ok (.iconst 1, 1) := by decide +kernel
theorem dX8_fact_122 : decode cX8_fact 122 = .ok (.goto 4, 3) := by decide +kernel
theorem dX8_fact_125 : decode cX8_fact 125 = .ok (.iconst 0, 1) := by decide +kernel
theorem dX8_fact_126 : decode cX8_fact 126 = .ok (.ireturn, 1) := by decide +kernel
theorem dX8_fact_127 : decode cX8_fact 127 = .ok (.aload_n 2, 1) := by decide +kernel
theorem dX8_fact_128 : decode cX8_fact 128 = .ok (.getfield 318, 3) := by decide +kernel
theorem dX8_fact_131 : decode cX8_fact 131 = .ok (.ifCond .eq 7, 3) := by decide +kernel
theorem dX8_fact_134 : decode cX8_fact 134 = .ok (.iconst 0, 1) := by decide +kernel
theorem dX8_fact_135 : decode cX8_fact 135 = .ok (.goto 7, 3) := by decide +kernel
theorem dX8_fact_138 : decode cX8_fact 138 = .ok (.aload_n 2, 1) := by decide +kernel
theorem dX8_fact_139 : decode cX8_fact 139 = .ok (.getfield 321, 3) := by decide +kernel
theorem dX8_fact_142 : decode cX8_fact 142 = .ok (.ireturn, 1) := by decide +kernel
theorem dX8_fact_143 : decode cX8_fact 143 = .ok (.aload_n 2, 1) := by decide +kernel
theorem dX8_fact_144 : decode cX8_fact 144 = .ok (.getfield 323, 3) := by decide +kernel
