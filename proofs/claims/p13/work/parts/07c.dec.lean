theorem dX8_fact_147 : decode cX8_fact 147 = .ok (.invokevirtual 327, 3) := by decide +kernel
theorem dX8_fact_150 : decode cX8_fact 150 = .ok (.ireturn, 1) := by decide +kernel
theorem dX5_waitedNumber_0 : decode cX5_waitedNumber 0 = .ok (.aload_n 0, 1) := by decide +kernel
theorem dX5_waitedNumber_1 : decode cX5_waitedNumber 1 = .ok (.getfield 56, 3) := by decide +kernel
theorem dX5_waitedNumber_4 : decode cX5_waitedNumber 4 = .ok (.tableswitch 48 2 5 #[32, 38, 38, 43], 32) := by decide +kernel
theorem dX5_waitedNumber_36 : decode cX5_waitedNumber 36 = .ok (.aload_n 0, 1) := by decide +kernel
theorem dX5_waitedNumber_37 : decode cX5_waitedNumber 37 = .ok (.getfield 65, 3) := by decide +kernel
theorem dX5_waitedNumber_40 : decode cX5_waitedNumber 40 = .ok (.l2i, 1) := by decide +kernel
theorem dX5_waitedNumber_41 : decode cX5_waitedNumber 41 = .ok (.ireturn, 1) := by decide +kernel
theorem dX5_waitedNumber_42 : decode cX5_waitedNumber 42 = .ok (.aload_n 0, 1) := by decide +kernel
theorem dX5_waitedNumber_43 : decode cX5_waitedNumber 43 = .ok (.getfield 59, 3) := by decide +kernel
theorem dX5_waitedNumber_46 : decode cX5_waitedNumber 46 = .ok (.ireturn, 1) := by decide +kernel
theorem dX5_waitedNumber_47 : decode cX5_waitedNumber 47 = .ok (.aload_n 0, 1) := by decide +kernel
theorem dX5_waitedNumber_48 : decode cX5_waitedNumber 48 = .ok (.getfield 62, 3) := by decide +kernel
theorem dX5_waitedNumber_51 : decode cX5_waitedNumber 51 = .ok (.ireturn, 1) := by decide +kernel
theorem dX5_waitedNumber_52 : decode cX5_waitedNumber 52 = .ok (.iconst 0, 1) := by decide +kernel
theorem dX5_waitedNumber_53 : decode cX5_waitedNumber 53 = .ok (.ireturn, 1) := by decide +kernel
theorem dX3_size_0 : decode cX3_size 0 = .ok (.aload_n 0, 1) := by decide +kernel
theorem dX3_size_1 : decode cX3_size 1 = .ok (.getfield 15, 3) := by decide +kernel
theorem dX3_size_4 : decode cX3_size 4 = .ok (.ireturn, 1) := by decide +kernel
theorem dX6_size_0 : decode cX6_size 0 = .ok (.aload_n 0, 1) := by decide +kernel
theorem dX6_size_1 : decode cX6_size 1 = .ok (.getfield 15, 3) := by decide +kernel
theorem dX6_size_4 : decode cX6_size 4 = .ok (.ireturn, 1) := by decide +kernel
theorem dX8_aboutAnew_0 : decode cX8_aboutAnew 0 = .ok (.aload_n 0, 1) := by decide +kernel
theorem dX8_aboutAnew_1 : decode cX8_aboutAnew 1 = .ok (.iload_n 1, 1) := by decide +kernel
theorem dX8_aboutAnew_2 : decode cX8_aboutAnew 2 = .ok (.invokevirtual 99, 3) := by decide +kernel
theorem dX8_aboutAnew_5 : decode cX8_aboutAnew 5 = .ok (.astore_n 3, 1) := by decide +kernel
theorem dX8_aboutAnew_6 : decode cX8_aboutAnew 6 = .ok (.aload_n 3, 1) := by decide +kernel
theorem dX8_aboutAnew_7 : decode cX8_aboutAnew 7 = .ok (.ifnonnull 13, 3) := by decide +kernel
theorem dX8_aboutAnew_10 : decode cX8_aboutAnew 10 = .ok (.new 72, 3) := by decide +kernel
theorem dX8_aboutAnew_13 : decode cX8_aboutAnew 13 = .ok (.dup, 1) := by decide +kernel
theorem dX8_aboutAnew_14 : decode cX8_aboutAnew 14 = .ok (.ldc 153, 2) := by decide +kernel
theorem dX8_aboutAnew_16 : decode cX8_aboutAnew 16 = .ok (.invokespecial 76, 3) := by decide +kernel
theorem dX8_aboutAnew_19 : decode cX8_aboutAnew 19 = .ok (.athrow, 1) := by decide +kernel
theorem dX8_aboutAnew_20 : decode cX8_aboutAnew 20 = .ok (.iload_n 2, 1) := by decide +kernel
theorem dX8_aboutAnew_21 : decode cX8_aboutAnew 21 = .ok (.bipush 9, 2) := by decide +kernel
theorem dX8_aboutAnew_23 : decode cX8_aboutAnew 23 = .ok (.invokestatic 68, 3) := by decide +kernel
theorem dX8_aboutAnew_26 : decode cX8_aboutAnew 26 = .ok (.ifCond .ne 13, 3) := by decide +kernel
theorem dX8_aboutAnew_29 : decode cX8_aboutAnew 29 = .ok (.new 83, 3) := by decide +kernel
theorem dX8_aboutAnew_32 : decode cX8_aboutAnew 32 = .ok (.dup, 1) := by decide +kernel
theorem dX8_aboutAnew_33 : decode cX8_aboutAnew 33 = .ok (.ldc 251, 2) := by decide +kernel
theorem dX8_aboutAnew_35 : decode cX8_aboutAnew 35 = .ok (.invokespecial 87, 3) := by decide +kernel
theorem dX8_aboutAnew_38 : decode cX8_aboutAnew 38 = .ok (.athrow, 1) := by decide +kernel
theorem dX8_aboutAnew_39 : decode cX8_aboutAnew 39 = .ok (.aload_n 0, 1) := by decide +kernel
theorem dX8_aboutAnew_40 : decode cX8_aboutAnew 40 = .ok (.aload_n 3, 1) := by decide +kernel
theorem dX8_aboutAnew_41 : decode cX8_aboutAnew 41 = .ok (.invokevirtual 129, 3) := by decide +kernel
theorem dX8_aboutAnew_44 : decode cX8_aboutAnew 44 = .ok (.astore 4, 2) := by decide +kernel
theorem dX8_aboutAnew_46 : decode cX8_aboutAnew 46 = .ok (.aload 4, 2) := by decide +kernel
theorem dX8_aboutAnew_48 : decode cX8_aboutAnew 48 = .ok (.getfield 133, 3) := by decide +kernel
theorem dX8_aboutAnew_51 : decode cX8_aboutAnew 51 = .ok (.ifCond .eq 13, 3) := by decide +kernel
theorem dX8_aboutAnew_54 : decode cX8_aboutAnew 54 = .ok (.new 145, 3) := by decide +kernel
theorem dX8_aboutAnew_57 : decode cX8_aboutAnew 57 = .ok (.dup, 1) := by decide +kernel
theorem dX8_aboutAnew_58 : decode cX8_aboutAnew 58 = .ok (.ldc 253, 2) := by decide +kernel
theorem dX8_aboutAnew_60 : decode cX8_aboutAnew 60 = .ok (.invokespecial 149, 3) := by decide +kernel
theorem dX8_aboutAnew_63 : decode cX8_aboutAnew 63 = .ok (.athrow, 1) := by decide +kernel
theorem dX8_aboutAnew_64 : decode cX8_aboutAnew 64 = .ok (.aload_n 0, 1) := by decide +kernel
theorem dX8_aboutAnew_65 : decode cX8_aboutAnew 65 = .ok (.aload_n 3, 1) := by decide +kernel
theorem dX8_aboutAnew_66 : decode cX8_aboutAnew 66 = .ok (.aload 4, 2) := by decide +kernel
theorem dX8_aboutAnew_68 : decode cX8_aboutAnew 68 = .ok (.iload_n 2, 1) := by decide +kernel
theorem dX8_aboutAnew_69 : decode cX8_aboutAnew 69 = .ok (.invokevirtual 255, 3) := by decide +kernel
theorem dX8_aboutAnew_72 : decode cX8_aboutAnew 72 = .ok (.ireturn, 1) := by decide +kernel
theorem dX8_parent_0 : decode cX8_parent 0 = .ok (.aload_n 0, 1) := by decide +kernel
theorem dX8_parent_1 : decode cX8_parent 1 = .ok (.iload_n 1, 1) := by decide +kernel
theorem dX8_parent_2 : decode cX8_parent 2 = .ok (.invokevirtual 99, 3) := by decide +kernel
theorem dX8_parent_5 : decode cX8_parent 5 = .ok (.astore_n 2, 1) := by decide +kernel
theorem dX8_parent_6 : decode cX8_parent 6 = .ok (.aload_n 2, 1) := by decide +kernel
theorem dX8_parent_7 : decode cX8_parent 7 = .ok (.ifnonnull 13, 3) := by decide +kernel
theorem dX8_parent_10 : decode cX8_parent 10 = .ok (.new 72, 3) := by decide +kernel
theorem dX8_parent_13 : decode cX8_parent 13 = .ok (.dup, 1) := by decide +kernel
theorem dX8_parent_14 : decode cX8_parent 14 = .ok (.ldc 153, 2) := by decide +kernel
theorem dX8_parent_16 : decode cX8_parent 16 = .ok (.invokespecial 76, 3) := by decide +kernel
theorem dX8_parent_19 : decode cX8_parent 19 = .ok (.athrow, 1) := by decide +kernel
theorem dX8_parent_20 : decode cX8_parent 20 = .ok (.aload_n 2, 1) := by decide +kernel
theorem dX8_parent_21 : decode cX8_parent 21 = .ok (.getfield 259, 3) := by decide +kernel
theorem dX8_parent_24 : decode cX8_parent 24 = .ok (.ireturn, 1) := by decide +kernel
theorem dX8_events_0 : decode cX8_events 0 = .ok (.aload_n 0, 1) := by decide +kernel
theorem dX8_events_1 : decode cX8_events 1 = .ok (.iload_n 1, 1) := by decide +kernel
theorem dX8_events_2 : decode cX8_events 2 = .ok (.invokevirtual 99, 3) := by decide +kernel
theorem dX8_events_5 : decode cX8_events 5 = .ok (.astore_n 2, 1) := by decide +kernel
theorem dX8_events_6 : decode cX8_events 6 = .ok (.aload_n 2, 1) := by decide +kernel
theorem dX8_events_7 : decode cX8_events 7 = .ok (.ifnonnull 13, 3) := by decide +kernel
theorem dX8_events_10 : decode cX8_events 10 = .ok (.new 72, 3) := by decide +kernel
theorem dX8_events_13 : decode cX8_events 13 = .ok (.dup, 1) := by decide +kernel
theorem dX8_events_14 : decode cX8_events 14 = .ok (.ldc 153, 2) := by decide +kernel
theorem dX8_events_16 : decode cX8_events 16 = .ok (.invokespecial 76, 3) := by decide +kernel
theorem dX8_events_19 : decode cX8_events 19 = .ok (.athrow, 1) := by decide +kernel
theorem dX8_events_20 : decode cX8_events 20 = .ok (.aload_n 2, 1) := by decide +kernel
theorem dX8_events_21 : decode cX8_events 21 = .ok (.getfield 179, 3) := by decide +kernel
theorem dX8_events_24 : decode cX8_events 24 = .ok (.invokevirtual 183, 3) := by decide +kernel
theorem dX8_events_27 : decode cX8_events 27 = .ok (.ireturn, 1) := by decide +kernel
theorem dX8_kind_0 : decode cX8_kind 0 = .ok (.aload_n 0, 1) := by decide +kernel
theorem dX8_kind_1 : decode cX8_kind 1 = .ok (.iload_n 1, 1) := by decide +kernel
theorem dX8_kind_2 : decode cX8_kind 2 = .ok (.invokevirtual 99, 3) := by decide +kernel
theorem dX8_kind_5 : decode cX8_kind 5 = .ok (.astore_n 3, 1) := by decide +kernel
theorem dX8_kind_6 : decode cX8_kind 6 = .ok (.aload_n 3, 1) := by decide +kernel
theorem dX8_kind_7 : decode cX8_kind 7 = .ok (.ifnull 17, 3) := by decide +kernel
theorem dX8_kind_10 : decode cX8_kind 10 = .ok (.iload_n 2, 1) := by decide +kernel
theorem dX8_kind_11 : decode cX8_kind 11 = .ok (.aload_n 3, 1) := by decide +kernel
theorem dX8_kind_12 : decode cX8_kind 12 = .ok (.getfield 179, 3) := by decide +kernel
theorem dX8_kind_15 : decode cX8_kind 15 = .ok (.invokevirtual 183, 3) := by decide +kernel
theorem dX8_kind_18 : decode cX8_kind 18 = .ok (.invokestatic 68, 3) := by decide +kernel
theorem dX8_kind_21 : decode cX8_kind 21 = .ok (.ifCond .ne 14, 3) := by decide +kernel
theorem dX8_kind_24 : decode cX8_kind 24 = .ok (.new 72, 3) := by decide +kernel
theorem dX8_kind_27 : decode cX8_kind 27 = .ok (.dup, 1) := by decide +kernel
theorem dX8_kind_28 : decode cX8_kind 28 = .ok (.ldc_w 262, 3) := by decide +kernel
theorem dX8_kind_31 : decode cX8_kind 31 = .ok (.invokespecial 76, 3) := by decide +kernel
theorem dX8_kind_34 : decode cX8_kind 34 = .ok (.athrow, 1) := by decide +kernel
theorem dX8_kind_35 : decode cX8_kind 35 = .ok (.aload_n 3, 1) := by decide +kernel
theorem dX8_kind_36 : decode cX8_kind 36 = .ok (.getfield 179, 3) := by decide +kernel
theorem dX8_kind_39 : decode cX8_kind 39 = .ok (.iload_n 2, 1) := by decide +kernel
theorem dX8_kind_40 : decode cX8_kind 40 = .ok (.invokevirtual 186, 3) := by decide +kernel
theorem dX8_kind_43 : decode cX8_kind 43 = .ok (.ireturn, 1) := by decide +kernel
theorem dX8_number_0 : decode cX8_number 0 = .ok (.aload_n 0, 1) := by decide +kernel
theorem dX8_number_1 : decode cX8_number 1 = .ok (.iload_n 1, 1) := by decide +kernel
theorem dX8_number_2 : decode cX8_number 2 = .ok (.invokevirtual 99, 3) := by decide +kernel
theorem dX8_number_5 : decode cX8_number 5 = .ok (.astore_n 3, 1) := by decide +kernel
theorem dX8_number_6 : decode cX8_number 6 = .ok (.aload_n 3, 1) := by decide +kernel
theorem dX8_number_7 : decode cX8_number 7 = .ok (.ifnull 17, 3) := by decide +kernel
theorem dX8_number_10 : decode cX8_number 10 = .ok (.iload_n 2, 1) := by decide +kernel
theorem dX8_number_11 : decode cX8_number 11 = .ok (.aload_n 3, 1) := by decide +kernel
theorem dX8_number_12 : decode cX8_number 12 = .ok (.getfield 179, 3) := by decide +kernel
theorem dX8_number_15 : decode cX8_number 15 = .ok (.invokevirtual 183, 3) := by decide +kernel
theorem dX8_number_18 : decode cX8_number 18 = .ok (.invokestatic 68, 3) := by decide +kernel
theorem dX8_number_21 : decode cX8_number 21 = .ok (.ifCond .ne 14, 3) := by decide +kernel
theorem dX8_number_24 : decode cX8_number 24 = .ok (.new 72, 3) := by decide +kernel
theorem dX8_number_27 : decode cX8_number 27 = .ok (.dup, 1) := by decide +kernel
theorem dX8_number_28 : decode cX8_number 28 = .ok (.ldc_w 262, 3) := by decide +kernel
theorem dX8_number_31 : decode cX8_number 31 = .ok (.invokespecial 76, 3) := by decide +kernel
theorem dX8_number_34 : decode cX8_number 34 = .ok (.athrow, 1) := by decide +kernel
theorem dX8_number_35 : decode cX8_number 35 = .ok (.aload_n 3, 1) := by decide +kernel
theorem dX8_number_36 : decode cX8_number 36 = .ok (.getfield 179, 3) := by decide +kernel
theorem dX8_number_39 : decode cX8_number 39 = .ok (.iload_n 2, 1) := by decide +kernel
theorem dX8_number_40 : decode cX8_number 40 = .ok (.invokevirtual 189, 3) := by decide +kernel
theorem dX8_number_43 : decode cX8_number 43 = .ok (.lreturn, 1) := by decide +kernel
theorem dX8_task_0 : decode cX8_task 0 = .ok (.aload_n 0, 1) := by decide +kernel
theorem dX8_task_1 : decode cX8_task 1 = .ok (.iload_n 1, 1) := by decide +kernel
theorem dX8_task_2 : decode cX8_task 2 = .ok (.invokevirtual 265, 3) := by decide +kernel
theorem dX8_task_5 : decode cX8_task 5 = .ok (.astore_n 3, 1) := by decide +kernel
theorem dX8_task_6 : decode cX8_task 6 = .ok (.aload_n 3, 1) := by decide +kernel
theorem dX8_task_7 : decode cX8_task 7 = .ok (.ifnonnull 14, 3) := by decide +kernel
theorem dX8_task_10 : decode cX8_task 10 = .ok (.new 72, 3) := by decide +kernel
theorem dX8_task_13 : decode cX8_task 13 = .ok (.dup, 1) := by decide +kernel
theorem dX8_task_14 : decode cX8_task 14 = .ok (.ldc_w 268, 3) := by decide +kernel
theorem dX8_task_17 : decode cX8_task 17 = .ok (.invokespecial 76, 3) := by decide +kernel
theorem dX8_task_20 : decode cX8_task 20 = .ok (.athrow, 1) := by decide +kernel
theorem dX8_task_21 : decode cX8_task 21 = .ok (.iload_n 2, 1) := by decide +kernel
theorem dX8_task_22 : decode cX8_task 22 = .ok (.bipush 6, 2) := by decide +kernel
theorem dX8_task_24 : decode cX8_task 24 = .ok (.invokestatic 68, 3) := by decide +kernel
theorem dX8_task_27 : decode cX8_task 27 = .ok (.ifCond .ne 13, 3) := by decide +kernel
theorem dX8_task_30 : decode cX8_task 30 = .ok (.new 83, 3) := by decide +kernel
theorem dX8_task_33 : decode cX8_task 33 = .ok (.dup, 1) := by decide +kernel
theorem dX8_task_34 : decode cX8_task 34 = .ok (.ldc 251, 2) := by decide +kernel
theorem dX8_task_36 : decode cX8_task 36 = .ok (.invokespecial 87, 3) := by decide +kernel
theorem dX8_task_39 : decode cX8_task 39 = .ok (.athrow, 1) := by decide +kernel
theorem dX8_task_40 : decode cX8_task 40 = .ok (.aload_n 3, 1) := by decide +kernel
theorem dX8_task_41 : decode cX8_task 41 = .ok (.iload_n 2, 1) := by decide +kernel
theorem dX8_task_42 : decode cX8_task 42 = .ok (.invokevirtual 270, 3) := by decide +kernel
theorem dX8_task_45 : decode cX8_task 45 = .ok (.ireturn, 1) := by decide +kernel
theorem dX7_fact_0 : decode cX7_fact 0 = .ok (.iload_n 1, 1) := by decide +kernel
theorem dX7_fact_1 : decode cX7_fact 1 = .ok (.tableswitch 63 0 4 #[35, 43, 48, 53, 58], 35) := by decide +kernel
theorem dX7_fact_36 : decode cX7_fact 36 = .ok (.aload_n 0, 1) := by decide +kernel
theorem dX7_fact_37 : decode cX7_fact 37 = .ok (.getfield 18, 3) := by decide +kernel
theorem dX7_fact_40 : decode cX7_fact 40 = .ok (.getfield 25, 3) := by decide +kernel
theorem dX7_fact_43 : decode cX7_fact 43 = .ok (.ireturn, 1) := by decide +kernel
theorem dX7_fact_44 : decode cX7_fact 44 = .ok (.aload_n 0, 1) := by decide +kernel
theorem dX7_fact_45 : decode cX7_fact 45 = .ok (.getfield 22, 3) := by decide +kernel
theorem dX7_fact_48 : decode cX7_fact 48 = .ok (.ireturn, 1) := by decide +kernel
theorem dX7_fact_49 : decode cX7_fact 49 = .ok (.aload_n 0, 1) := by decide +kernel
theorem dX7_fact_50 : decode cX7_fact 50 = .ok (.getfield 9, 3) := by decide +kernel
theorem dX7_fact_53 : decode cX7_fact 53 = .ok (.ireturn, 1) := by decide +kernel
theorem dX7_fact_54 : decode cX7_fact 54 = .ok (.aload_n 0, 1) := by decide +kernel
theorem dX7_fact_55 : decode cX7_fact 55 = .ok (.getfield 28, 3) := by decide +kernel
theorem dX7_fact_58 : decode cX7_fact 58 = .ok (.ireturn, 1) := by decide +kernel
theorem dX7_fact_59 : decode cX7_fact 59 = .ok (.aload_n 0, 1) := by decide +kernel
theorem dX7_fact_60 : decode cX7_fact 60 = .ok (.getfield 31, 3) := by decide +kernel
theorem dX7_fact_63 : decode cX7_fact 63 = .ok (.ireturn, 1) := by decide +kernel
theorem dX7_fact_64 : decode cX7_fact 64 = .ok (.aload_n 0, 1) := by decide +kernel
theorem dX7_fact_65 : decode cX7_fact 65 = .ok (.getfield 34, 3) := by decide +kernel
theorem dX7_fact_68 : decode cX7_fact 68 = .ok (.ireturn, 1) := by decide +kernel
theorem dX9_init_0 : decode cX9_init 0 = .ok (.aload_n 0, 1) := by decide +kernel
theorem dX9_init_1 : decode cX9_init 1 = .ok (.invokespecial 1, 3) := by decide +kernel
theorem dX9_init_4 : decode cX9_init 4 = .ok (.aload_n 0, 1) := by decide +kernel
theorem dX9_init_5 : decode cX9_init 5 = .ok (.iconst 1, 1) := by decide +kernel
theorem dX9_init_6 : decode cX9_init 6 = .ok (.putfield 7, 3) := by decide +kernel
theorem dX9_init_9 : decode cX9_init 9 = .ok (.aload_n 0, 1) := by decide +kernel
theorem dX9_init_10 : decode cX9_init 10 = .ok (.bipush 120, 2) := by decide +kernel
theorem dX9_init_12 : decode cX9_init 12 = .ok (.newarray .int, 2) := by decide +kernel
theorem dX9_init_14 : decode cX9_init 14 = .ok (.putfield 13, 3) := by decide +kernel
theorem dX9_init_17 : decode cX9_init 17 = .ok (.aload_n 0, 1) := by decide +kernel
theorem dX9_init_18 : decode cX9_init 18 = .ok (.bipush 120, 2) := by decide +kernel
theorem dX9_init_20 : decode cX9_init 20 = .ok (.newarray .int, 2) := by decide +kernel
theorem dX9_init_22 : decode cX9_init 22 = .ok (.putfield 17, 3) := by decide +kernel
theorem dX9_init_25 : decode cX9_init 25 = .ok (.aload_n 0, 1) := by decide +kernel
theorem dX9_init_26 : decode cX9_init 26 = .ok (.bipush 120, 2) := by decide +kernel
theorem dX9_init_28 : decode cX9_init 28 = .ok (.newarray .int, 2) := by decide +kernel
theorem dX9_init_30 : decode cX9_init 30 = .ok (.putfield 20, 3) := by decide +kernel
theorem dX9_init_33 : decode cX9_init 33 = .ok (.aload_n 0, 1) := by decide +kernel
theorem dX9_init_34 : decode cX9_init 34 = .ok (.bipush 41, 2) := by decide +kernel
theorem dX9_init_36 : decode cX9_init 36 = .ok (.newarray .int, 2) := by decide +kernel
theorem dX9_init_38 : decode cX9_init 38 = .ok (.putfield 23, 3) := by decide +kernel
theorem dX9_init_41 : decode cX9_init 41 = .ok (.aload_n 0, 1) := by decide +kernel
theorem dX9_init_42 : decode cX9_init 42 = .ok (.bipush 41, 2) := by decide +kernel
theorem dX9_init_44 : decode cX9_init 44 = .ok (.newarray .int, 2) := by decide +kernel
theorem dX9_init_46 : decode cX9_init 46 = .ok (.putfield 26, 3) := by decide +kernel
theorem dX9_init_49 : decode cX9_init 49 = .ok (.aload_n 0, 1) := by decide +kernel
theorem dX9_init_50 : decode cX9_init 50 = .ok (.bipush 41, 2) := by decide +kernel
theorem dX9_init_52 : decode cX9_init 52 = .ok (.newarray .int, 2) := by decide +kernel
theorem dX9_init_54 : decode cX9_init 54 = .ok (.putfield 29, 3) := by decide +kernel
theorem dX9_init_57 : decode cX9_init 57 = .ok (.aload_n 0, 1) := by decide +kernel
theorem dX9_init_58 : decode cX9_init 58 = .ok (.bipush 41, 2) := by decide +kernel
theorem dX9_init_60 : decode cX9_init 60 = .ok (.newarray .int, 2) := by decide +kernel
theorem dX9_init_62 : decode cX9_init 62 = .ok (.putfield 32, 3) := by decide +kernel
theorem dX9_init_65 : decode cX9_init 65 = .ok (.aload_n 0, 1) := by decide +kernel
theorem dX9_init_66 : decode cX9_init 66 = .ok (.bipush 41, 2) := by decide +kernel
theorem dX9_init_68 : decode cX9_init 68 = .ok (.newarray .int, 2) := by decide +kernel
theorem dX9_init_70 : decode cX9_init 70 = .ok (.putfield 35, 3) := by decide +kernel
theorem dX9_init_73 : decode cX9_init 73 = .ok (.aload_n 0, 1) := by decide +kernel
theorem dX9_init_74 : decode cX9_init 74 = .ok (.bipush 41, 2) := by decide +kernel
theorem dX9_init_76 : decode cX9_init 76 = .ok (.newarray .int, 2) := by decide +kernel
theorem dX9_init_78 : decode cX9_init 78 = .ok (.putfield 38, 3) := by decide +kernel
theorem dX9_init_81 : decode cX9_init 81 = .ok (.aload_n 0, 1) := by decide +kernel
theorem dX9_init_82 : decode cX9_init 82 = .ok (.bipush 41, 2) := by decide +kernel
theorem dX9_init_84 : decode cX9_init 84 = .ok (.newarray .int, 2) := by decide +kernel
theorem dX9_init_86 : decode cX9_init 86 = .ok (.putfield 41, 3) := by decide +kernel
theorem dX9_init_89 : decode cX9_init 89 = .ok (.aload_n 0, 1) := by decide +kernel
theorem dX9_init_90 : decode cX9_init 90 = .ok (.sipush 6560, 3) := by decide +kernel
theorem dX9_init_93 : decode cX9_init 93 = .ok (.newarray .int, 2) := by decide +kernel
theorem dX9_init_95 : decode cX9_init 95 = .ok (.putfield 44, 3) := by decide +kernel
theorem dX9_init_98 : decode cX9_init 98 = .ok (.aload_n 0, 1) := by decide +kernel
theorem dX9_init_99 : decode cX9_init 99 = .ok (.sipush 6560, 3) := by decide +kernel
theorem dX9_init_102 : decode cX9_init 102 = .ok (.newarray .long, 2) := by decide +kernel
theorem dX9_init_104 : decode cX9_init 104 = .ok (.putfield 47, 3) := by decide +kernel
theorem dX9_init_107 : decode cX9_init 107 = .ok (.aload_n 0, 1) := by decide +kernel
theorem dX9_init_108 : decode cX9_init 108 = .ok (.sipush 2100, 3) := by decide +kernel
theorem dX9_init_111 : decode cX9_init 111 = .ok (.newarray .int, 2) := by decide +kernel
theorem dX9_init_113 : decode cX9_init 113 = .ok (.putfield 51, 3) := by decide +kernel
theorem dX9_init_116 : decode cX9_init 116 = .ok (.aload_n 0, 1) := by decide +kernel
theorem dX9_init_117 : decode cX9_init 117 = .ok (.sipush 2100, 3) := by decide +kernel
theorem dX9_init_120 : decode cX9_init 120 = .ok (.newarray .int, 2) := by decide +kernel
theorem dX9_init_122 : decode cX9_init 122 = .ok (.putfield 54, 3) := by decide +kernel
theorem dX9_init_125 : decode cX9_init 125 = .ok (.aload_n 0, 1) := by decide +kernel
theorem dX9_init_126 : decode cX9_init 126 = .ok (.sipush 2100, 3) := by decide +kernel
theorem dX9_init_129 : decode cX9_init 129 = .ok (.newarray .int, 2) := by decide +kernel
theorem dX9_init_131 : decode cX9_init 131 = .ok (.putfield 57, 3) := by decide +kernel
theorem dX9_init_134 : decode cX9_init 134 = .ok (.aload_n 0, 1) := by decide +kernel
theorem dX9_init_135 : decode cX9_init 135 = .ok (.sipush 2100, 3) := by decide +kernel
theorem dX9_init_138 : decode cX9_init 138 = .ok (.newarray .int, 2) := by decide +kernel
theorem dX9_init_140 : decode cX9_init 140 = .ok (.putfield 60, 3) := by decide +kernel
theorem dX9_init_143 : decode cX9_init 143 = .ok (.aload_n 0, 1) := by decide +kernel
theorem dX9_init_144 : decode cX9_init 144 = .ok (.sipush 2100, 3) := by decide +kernel
theorem dX9_init_147 : decode cX9_init 147 = .ok (.newarray .int, 2) := by decide +kernel
theorem dX9_init_149 : decode cX9_init 149 = .ok (.putfield 63, 3) := by decide +kernel
theorem dX9_init_152 : decode cX9_init 152 = .ok (.aload_n 0, 1) := by decide +kernel
theorem dX9_init_153 : decode cX9_init 153 = .ok (.sipush 2100, 3) := by decide +kernel
theorem dX9_init_156 : decode cX9_init 156 = .ok (.newarray .int, 2) := by decide +kernel
theorem dX9_init_158 : decode cX9_init 158 = .ok (.putfield 66, 3) := by decide +kernel
theorem dX9_init_161 : decode cX9_init 161 = .ok (.aload_n 0, 1) := by decide +kernel
theorem dX9_init_162 : decode cX9_init 162 = .ok (.bipush 6, 2) := by decide +kernel
theorem dX9_init_164 : decode cX9_init 164 = .ok (.newarray .int, 2) := by decide +kernel
theorem dX9_init_166 : decode cX9_init 166 = .ok (.putfield 69, 3) := by decide +kernel
theorem dX9_init_169 : decode cX9_init 169 = .ok (.aload_n 0, 1) := by decide +kernel
theorem dX9_init_170 : decode cX9_init 170 = .ok (.bipush 20, 2) := by decide +kernel
theorem dX9_init_172 : decode cX9_init 172 = .ok (.newarray .int, 2) := by decide +kernel
theorem dX9_init_174 : decode cX9_init 174 = .ok (.putfield 72, 3) := by decide +kernel
theorem dX9_init_177 : decode cX9_init 177 = .ok (.aload_n 0, 1) := by decide +kernel
theorem dX9_init_178 : decode cX9_init 178 = .ok (.sipush 160, 3) := by decide +kernel
theorem dX9_init_181 : decode cX9_init 181 = .ok (.newarray .int, 2) := by decide +kernel
theorem dX9_init_183 : decode cX9_init 183 = .ok (.putfield 75, 3) := by decide +kernel
theorem dX9_init_186 : decode cX9_init 186 = .ok (.aload_n 0, 1) := by decide +kernel
theorem dX9_init_187 : decode cX9_init 187 = .ok (.sipush 160, 3) := by decide +kernel
theorem dX9_init_190 : decode cX9_init 190 = .ok (.newarray .int, 2) := by decide +kernel
theorem dX9_init_192 : decode cX9_init 192 = .ok (.putfield 78, 3) := by decide +kernel
theorem dX9_init_195 : decode cX9_init 195 = .ok (.aload_n 0, 1) := by decide +kernel
theorem dX9_init_196 : decode cX9_init 196 = .ok (.bipush 50, 2) := by decide +kernel
theorem dX9_init_198 : decode cX9_init 198 = .ok (.newarray .int, 2) := by decide +kernel
theorem dX9_init_200 : decode cX9_init 200 = .ok (.putfield 81, 3) := by decide +kernel
theorem dX9_init_203 : decode cX9_init 203 = .ok (.aload_n 0, 1) := by decide +kernel
theorem dX9_init_204 : decode cX9_init 204 = .ok (.sipush 400, 3) := by decide +kernel
theorem dX9_init_207 : decode cX9_init 207 = .ok (.newarray .int, 2) := by decide +kernel
theorem dX9_init_209 : decode cX9_init 209 = .ok (.putfield 84, 3) := by decide +kernel
theorem dX9_init_212 : decode cX9_init 212 = .ok (.aload_n 0, 1) := by decide +kernel
theorem dX9_init_213 : decode cX9_init 213 = .ok (.sipush 400, 3) := by decide +kernel
theorem dX9_init_216 : decode cX9_init 216 = .ok (.newarray .int, 2) := by decide +kernel
theorem dX9_init_218 : decode cX9_init 218 = .ok (.putfield 87, 3) := by decide +kernel
theorem dX9_init_221 : decode cX9_init 221 = .ok (.return_, 1) := by decide +kernel
theorem dX9_thrown_0 : decode cX9_thrown 0 = .ok (.aload_n 0, 1) := by decide +kernel
theorem dX9_thrown_1 : decode cX9_thrown 1 = .ok (.getfield 90, 3) := by decide +kernel
theorem dX9_thrown_4 : decode cX9_thrown 4 = .ok (.ireturn, 1) := by decide +kernel
theorem dX9_set_0 : decode cX9_set 0 = .ok (.aload_n 0, 1) := by decide +kernel
theorem dX9_set_1 : decode cX9_set 1 = .ok (.iload_n 1, 1) := by decide +kernel
theorem dX9_set_2 : decode cX9_set 2 = .ok (.iload_n 2, 1) := by decide +kernel
theorem dX9_set_3 : decode cX9_set 3 = .ok (.invokestatic 238, 3) := by decide +kernel
theorem dX9_set_6 : decode cX9_set 6 = .ok (.iload_n 3, 1) := by decide +kernel
theorem dX9_set_7 : decode cX9_set 7 = .ok (.iload 4, 2) := by decide +kernel
theorem dX9_set_9 : decode cX9_set 9 = .ok (.iload 5, 2) := by decide +kernel
theorem dX9_set_11 : decode cX9_set 11 = .ok (.invokestatic 242, 3) := by decide +kernel
theorem dX9_set_14 : decode cX9_set 14 = .ok (.invokevirtual 245, 3) := by decide +kernel
theorem dX9_set_17 : decode cX9_set 17 = .ok (.ifCond .ne 5, 3) := by decide +kernel
theorem dX9_set_20 : decode cX9_set 20 = .ok (.iconst 0, 1) := by decide +kernel
theorem dX9_set_21 : decode cX9_set 21 = .ok (.ireturn, 1) := by decide +kernel
theorem dX9_set_22 : decode cX9_set 22 = .ok (.aload_n 0, 1) := by decide +kernel
theorem dX9_set_23 : decode cX9_set 23 = .ok (.iload_n 1, 1) := by decide +kernel
theorem dX9_set_24 : decode cX9_set 24 = .ok (.iload_n 2, 1) := by decide +kernel
theorem dX9_set_25 : decode cX9_set 25 = .ok (.iload_n 3, 1) := by decide +kernel
theorem dX9_set_26 : decode cX9_set 26 = .ok (.iload 4, 2) := by decide +kernel
theorem dX9_set_28 : decode cX9_set 28 = .ok (.iload 5, 2) := by decide +kernel
theorem dX9_set_30 : decode cX9_set 30 = .ok (.invokevirtual 249, 3) := by decide +kernel
theorem dX9_set_33 : decode cX9_set 33 = .ok (.iconst 0, 1) := by decide +kernel
theorem dX9_set_34 : decode cX9_set 34 = .ok (.istore 6, 2) := by decide +kernel
theorem dX9_set_36 : decode cX9_set 36 = .ok (.iload 6, 2) := by decide +kernel
theorem dX9_set_38 : decode cX9_set 38 = .ok (.aload_n 0, 1) := by decide +kernel
theorem dX9_set_39 : decode cX9_set 39 = .ok (.getfield 93, 3) := by decide +kernel
theorem dX9_set_42 : decode cX9_set 42 = .ok (.if_icmp .ge 45, 3) := by decide +kernel
theorem dX9_set_45 : decode cX9_set 45 = .ok (.aload_n 0, 1) := by decide +kernel
theorem dX9_set_46 : decode cX9_set 46 = .ok (.getfield 23, 3) := by decide +kernel
theorem dX9_set_49 : decode cX9_set 49 = .ok (.iload 6, 2) := by decide +kernel
theorem dX9_set_51 : decode cX9_set 51 = .ok (.iaload, 1) := by decide +kernel
theorem dX9_set_52 : decode cX9_set 52 = .ok (.iload_n 1, 1) := by decide +kernel
theorem dX9_set_53 : decode cX9_set 53 = .ok (.if_icmp .ne 28, 3) := by decide +kernel
theorem dX9_set_56 : decode cX9_set 56 = .ok (.aload_n 0, 1) := by decide +kernel
theorem dX9_set_57 : decode cX9_set 57 = .ok (.getfield 32, 3) := by decide +kernel
theorem dX9_set_60 : decode cX9_set 60 = .ok (.iload 6, 2) := by decide +kernel
theorem dX9_set_62 : decode cX9_set 62 = .ok (.iaload, 1) := by decide +kernel
theorem dX9_set_63 : decode cX9_set 63 = .ok (.ifCond .ne 18, 3) := by decide +kernel
theorem dX9_set_66 : decode cX9_set 66 = .ok (.aload_n 0, 1) := by decide +kernel
theorem dX9_set_67 : decode cX9_set 67 = .ok (.iload 6, 2) := by decide +kernel
theorem dX9_set_69 : decode cX9_set 69 = .ok (.invokevirtual 235, 3) := by decide +kernel
theorem dX9_set_72 : decode cX9_set 72 = .ok (.ifCond .eq 9, 3) := by decide +kernel
theorem dX9_set_75 : decode cX9_set 75 = .ok (.aload_n 0, 1) := by decide +kernel
theorem dX9_set_76 : decode cX9_set 76 = .ok (.iload 6, 2) := by decide +kernel
theorem dX9_set_78 : decode cX9_set 78 = .ok (.invokevirtual 253, 3) := by decide +kernel
theorem dX9_set_81 : decode cX9_set 81 = .ok (.iinc 6 1, 3) := by decide +kernel
theorem dX9_set_84 : decode cX9_set 84 = .ok (.goto (-48), 3) := by decide +kernel
theorem dX9_set_87 : decode cX9_set 87 = .ok (.aload_n 0, 1) := by decide +kernel
theorem dX9_set_88 : decode cX9_set 88 = .ok (.iload_n 1, 1) := by decide +kernel
theorem dX9_set_89 : decode cX9_set 89 = .ok (.invokevirtual 256, 3) := by decide +kernel
theorem dX9_set_92 : decode cX9_set 92 = .ok (.ireturn, 1) := by decide +kernel
theorem dX9_isStep_0 : decode cX9_isStep 0 = .ok (.iload_n 0, 1) := by decide +kernel
theorem dX9_isStep_1 : decode cX9_isStep 1 = .ok (.iconst 0, 1) := by decide +kernel
theorem dX9_isStep_2 : decode cX9_isStep 2 = .ok (.iconst 5, 1) := by decide +kernel
theorem dX9_isStep_3 : decode cX9_isStep 3 = .ok (.invokestatic 96, 3) := by decide +kernel
theorem dX9_isStep_6 : decode cX9_isStep 6 = .ok (.ifCond .eq 17, 3) := by decide +kernel
theorem dX9_isStep_9 : decode cX9_isStep 9 = .ok (.iload_n 1, 1) := by decide +kernel
theorem dX9_isStep_10 : decode cX9_isStep 10 = .ok (.iconst 0, 1) := by decide +kernel
theorem dX9_isStep_11 : decode cX9_isStep 11 = .ok (.bipush 19, 2) := by decide +kernel
theorem dX9_isStep_13 : decode cX9_isStep 13 = .ok (.invokestatic 96, 3) := by decide +kernel
theorem dX9_isStep_16 : decode cX9_isStep 16 = .ok (.ifCond .eq 7, 3) := by decide +kernel
theorem dX9_isStep_19 : decode cX9_isStep 19 = .ok (.iconst 1, 1) := by decide +kernel
theorem dX9_isStep_20 : decode cX9_isStep 20 = .ok (.goto 4, 3) := by decide +kernel
theorem dX9_isStep_23 : decode cX9_isStep 23 = .ok (.iconst 0, 1) := by decide +kernel
theorem dX9_isStep_24 : decode cX9_isStep 24 = .ok (.ireturn, 1) := by decide +kernel
theorem dX9_in_0 : decode cX9_in 0 = .ok (.iload_n 0, 1) := by decide +kernel
theorem dX9_in_1 : decode cX9_in 1 = .ok (.iload_n 1, 1) := by decide +kernel
theorem dX9_in_2 : decode cX9_in 2 = .ok (.if_icmp .lt 12, 3) := by decide +kernel
theorem dX9_in_5 : decode cX9_in 5 = .ok (.iload_n 0, 1) := by decide +kernel
theorem dX9_in_6 : decode cX9_in 6 = .ok (.iload_n 2, 1) := by decide +kernel
theorem dX9_in_7 : decode cX9_in 7 = .ok (.if_icmp .gt 7, 3) := by decide +kernel
theorem dX9_in_10 : decode cX9_in 10 = .ok (.iconst 1, 1) := by decide +kernel
theorem dX9_in_11 : decode cX9_in 11 = .ok (.goto 4, 3) := by decide +kernel
theorem dX9_in_14 : decode cX9_in 14 = .ok (.iconst 0, 1) := by decide +kernel
theorem dX9_in_15 : decode cX9_in 15 = .ok (.ireturn, 1) := by decide +kernel
theorem dX9_isOperation_0 : decode cX9_isOperation 0 = .ok (.iload_n 0, 1) := by decide +kernel
theorem dX9_isOperation_1 : decode cX9_isOperation 1 = .ok (.iconst 0, 1) := by decide +kernel
theorem dX9_isOperation_2 : decode cX9_isOperation 2 = .ok (.bipush 17, 2) := by decide +kernel
theorem dX9_isOperation_4 : decode cX9_isOperation 4 = .ok (.invokestatic 96, 3) := by decide +kernel
theorem dX9_isOperation_7 : decode cX9_isOperation 7 = .ok (.ifCond .eq 27, 3) := by decide +kernel
theorem dX9_isOperation_10 : decode cX9_isOperation 10 = .ok (.iload_n 1, 1) := by decide +kernel
theorem dX9_isOperation_11 : decode cX9_isOperation 11 = .ok (.iconst 0, 1) := by decide +kernel
theorem dX9_isOperation_12 : decode cX9_isOperation 12 = .ok (.bipush 99, 2) := by decide +kernel
theorem dX9_isOperation_14 : decode cX9_isOperation 14 = .ok (.invokestatic 96, 3) := by decide +kernel
theorem dX9_isOperation_17 : decode cX9_isOperation 17 = .ok (.ifCond .eq 17, 3) := by decide +kernel
theorem dX9_isOperation_20 : decode cX9_isOperation 20 = .ok (.iload_n 2, 1) := by decide +kernel
theorem dX9_isOperation_21 : decode cX9_isOperation 21 = .ok (.iconst 0, 1) := by decide +kernel
theorem dX9_isOperation_22 : decode cX9_isOperation 22 = .ok (.bipush 99, 2) := by decide +kernel
theorem dX9_isOperation_24 : decode cX9_isOperation 24 = .ok (.invokestatic 96, 3) := by decide +kernel
theorem dX9_isOperation_27 : decode cX9_isOperation 27 = .ok (.ifCond .eq 7, 3) := by decide +kernel
theorem dX9_isOperation_30 : decode cX9_isOperation 30 = .ok (.iconst 1, 1) := by decide +kernel
theorem dX9_isOperation_31 : decode cX9_isOperation 31 = .ok (.goto 4, 3) := by decide +kernel
theorem dX9_isOperation_34 : decode cX9_isOperation 34 = .ok (.iconst 0, 1) := by decide +kernel
theorem dX9_isOperation_35 : decode cX9_isOperation 35 = .ok (.ireturn, 1) := by decide +kernel
theorem dX9_needs__0 : decode cX9_needs_ 0 = .ok (.aload_n 0, 1) := by decide +kernel
theorem dX9_needs__1 : decode cX9_needs_ 1 = .ok (.iload_n 1, 1) := by decide +kernel
theorem dX9_needs__2 : decode cX9_needs_ 2 = .ok (.ifCond .ne 7, 3) := by decide +kernel
theorem dX9_needs__5 : decode cX9_needs_ 5 = .ok (.iconst 1, 1) := by decide +kernel
theorem dX9_needs__6 : decode cX9_needs_ 6 = .ok (.goto 12, 3) := by decide +kernel
theorem dX9_needs__9 : decode cX9_needs_ 9 = .ok (.iload_n 2, 1) := by decide +kernel
theorem dX9_needs__10 : decode cX9_needs_ 10 = .ok (.ifCond .eq 7, 3) := by decide +kernel
theorem dX9_needs__13 : decode cX9_needs_ 13 = .ok (.iconst 0, 1) := by decide +kernel
theorem dX9_needs__14 : decode cX9_needs_ 14 = .ok (.goto 4, 3) := by decide +kernel
theorem dX9_needs__17 : decode cX9_needs_ 17 = .ok (.iconst 2, 1) := by decide +kernel
theorem dX9_needs__18 : decode cX9_needs_ 18 = .ok (.putfield 90, 3) := by decide +kernel
theorem dX9_needs__21 : decode cX9_needs_ 21 = .ok (.aload_n 0, 1) := by decide +kernel
theorem dX9_needs__22 : decode cX9_needs_ 22 = .ok (.getfield 90, 3) := by decide +kernel
theorem dX9_needs__25 : decode cX9_needs_ 25 = .ok (.ifCond .ne 7, 3) := by decide +kernel
theorem dX9_needs__28 : decode cX9_needs_ 28 = .ok (.iconst 1, 1) := by decide +kernel
theorem dX9_needs__29 : decode cX9_needs_ 29 = .ok (.goto 4, 3) := by decide +kernel
theorem dX9_needs__32 : decode cX9_needs_ 32 = .ok (.iconst 0, 1) := by decide +kernel
theorem dX9_needs__33 : decode cX9_needs_ 33 = .ok (.ireturn, 1) := by decide +kernel
theorem dX9_lays_0 : decode cX9_lays 0 = .ok (.aload_n 0, 1) := by decide +kernel
theorem dX9_lays_1 : decode cX9_lays 1 = .ok (.getfield 13, 3) := by decide +kernel
theorem dX9_lays_4 : decode cX9_lays 4 = .ok (.bipush 20, 2) := by decide +kernel
theorem dX9_lays_6 : decode cX9_lays 6 = .ok (.iload_n 1, 1) := by decide +kernel
theorem dX9_lays_7 : decode cX9_lays 7 = .ok (.imul, 1) := by decide +kernel
theorem dX9_lays_8 : decode cX9_lays 8 = .ok (.iload_n 2, 1) := by decide +kernel
theorem dX9_lays_9 : decode cX9_lays 9 = .ok (.iadd, 1) := by decide +kernel
theorem dX9_lays_10 : decode cX9_lays 10 = .ok (.iload_n 3, 1) := by decide +kernel
theorem dX9_lays_11 : decode cX9_lays 11 = .ok (.iastore, 1) := by decide +kernel
theorem dX9_lays_12 : decode cX9_lays 12 = .ok (.aload_n 0, 1) := by decide +kernel
theorem dX9_lays_13 : decode cX9_lays 13 = .ok (.getfield 17, 3) := by decide +kernel
theorem dX9_lays_16 : decode cX9_lays 16 = .ok (.bipush 20, 2) := by decide +kernel
theorem dX9_lays_18 : decode cX9_lays 18 = .ok (.iload_n 1, 1) := by decide +kernel
theorem dX9_lays_19 : decode cX9_lays 19 = .ok (.imul, 1) := by decide +kernel
theorem dX9_lays_20 : decode cX9_lays 20 = .ok (.iload_n 2, 1) := by decide +kernel
theorem dX9_lays_21 : decode cX9_lays 21 = .ok (.iadd, 1) := by decide +kernel
theorem dX9_lays_22 : decode cX9_lays 22 = .ok (.iload 4, 2) := by decide +kernel
theorem dX9_lays_24 : decode cX9_lays 24 = .ok (.iastore, 1) := by decide +kernel
theorem dX9_lays_25 : decode cX9_lays 25 = .ok (.aload_n 0, 1) := by decide +kernel
theorem dX9_lays_26 : decode cX9_lays 26 = .ok (.getfield 20, 3) := by decide +kernel
theorem dX9_lays_29 : decode cX9_lays 29 = .ok (.bipush 20, 2) := by decide +kernel
theorem dX9_lays_31 : decode cX9_lays 31 = .ok (.iload_n 1, 1) := by decide +kernel
theorem dX9_lays_32 : decode cX9_lays 32 = .ok (.imul, 1) := by decide +kernel
theorem dX9_lays_33 : decode cX9_lays 33 = .ok (.iload_n 2, 1) := by decide +kernel
theorem dX9_lays_34 : decode cX9_lays 34 = .ok (.iadd, 1) := by decide +kernel
theorem dX9_lays_35 : decode cX9_lays 35 = .ok (.iload 5, 2) := by decide +kernel
theorem dX9_lays_37 : decode cX9_lays 37 = .ok (.iastore, 1) := by decide +kernel
theorem dX9_lays_38 : decode cX9_lays 38 = .ok (.return_, 1) := by decide +kernel
theorem dX9_isFit_0 : decode cX9_isFit 0 = .ok (.aload_n 0, 1) := by decide +kernel
theorem dX9_isFit_1 : decode cX9_isFit 1 = .ok (.iload_n 1, 1) := by decide +kernel
theorem dX9_isFit_2 : decode cX9_isFit 2 = .ok (.aload_n 0, 1) := by decide +kernel
theorem dX9_isFit_3 : decode cX9_isFit 3 = .ok (.getfield 35, 3) := by decide +kernel
theorem dX9_isFit_6 : decode cX9_isFit 6 = .ok (.iload_n 1, 1) := by decide +kernel
theorem dX9_isFit_7 : decode cX9_isFit 7 = .ok (.iaload, 1) := by decide +kernel
theorem dX9_isFit_8 : decode cX9_isFit 8 = .ok (.iconst 0, 1) := by decide +kernel
theorem dX9_isFit_9 : decode cX9_isFit 9 = .ok (.invokevirtual 216, 3) := by decide +kernel
theorem dX9_isFit_12 : decode cX9_isFit 12 = .ok (.pop, 1) := by decide +kernel
theorem dX9_isFit_13 : decode cX9_isFit 13 = .ok (.aload_n 0, 1) := by decide +kernel
theorem dX9_isFit_14 : decode cX9_isFit 14 = .ok (.getfield 103, 3) := by decide +kernel
theorem dX9_isFit_17 : decode cX9_isFit 17 = .ok (.ireturn, 1) := by decide +kernel
theorem dX9_replays_0 : decode cX9_replays 0 = .ok (.aload_n 0, 1) := by decide +kernel
theorem dX9_replays_1 : decode cX9_replays 1 = .ok (.invokevirtual 175, 3) := by decide +kernel
theorem dX9_replays_4 : decode cX9_replays 4 = .ok (.aload_n 0, 1) := by decide +kernel
theorem dX9_replays_5 : decode cX9_replays 5 = .ok (.iload_n 3, 1) := by decide +kernel
theorem dX9_replays_6 : decode cX9_replays 6 = .ok (.putfield 156, 3) := by decide +kernel
theorem dX9_replays_9 : decode cX9_replays 9 = .ok (.aload_n 0, 1) := by decide +kernel
theorem dX9_replays_10 : decode cX9_replays 10 = .ok (.aload_n 0, 1) := by decide +kernel
theorem dX9_replays_11 : decode cX9_replays 11 = .ok (.getfield 44, 3) := by decide +kernel
theorem dX9_replays_14 : decode cX9_replays 14 = .ok (.sipush 160, 3) := by decide +kernel
theorem dX9_replays_17 : decode cX9_replays 17 = .ok (.iload_n 1, 1) := by decide +kernel
theorem dX9_replays_18 : decode cX9_replays 18 = .ok (.imul, 1) := by decide +kernel
theorem dX9_replays_19 : decode cX9_replays 19 = .ok (.iaload, 1) := by decide +kernel
theorem dX9_replays_20 : decode cX9_replays 20 = .ok (.ifCond .ne 7, 3) := by decide +kernel
theorem dX9_replays_23 : decode cX9_replays 23 = .ok (.iconst 1, 1) := by decide +kernel
theorem dX9_replays_24 : decode cX9_replays 24 = .ok (.goto 4, 3) := by decide +kernel
theorem dX9_replays_27 : decode cX9_replays 27 = .ok (.iconst 0, 1) := by decide +kernel
theorem dX9_replays_28 : decode cX9_replays 28 = .ok (.putfield 103, 3) := by decide +kernel
theorem dX9_replays_31 : decode cX9_replays 31 = .ok (.aload_n 0, 1) := by decide +kernel
theorem dX9_replays_32 : decode cX9_replays 32 = .ok (.aload_n 0, 1) := by decide +kernel
theorem dX9_replays_33 : decode cX9_replays 33 = .ok (.getfield 47, 3) := by decide +kernel
theorem dX9_replays_36 : decode cX9_replays 36 = .ok (.sipush 160, 3) := by decide +kernel
theorem dX9_replays_39 : decode cX9_replays 39 = .ok (.iload_n 1, 1) := by decide +kernel
theorem dX9_replays_40 : decode cX9_replays 40 = .ok (.imul, 1) := by decide +kernel
theorem dX9_replays_41 : decode cX9_replays 41 = .ok (.laload, 1) := by decide +kernel
theorem dX9_replays_42 : decode cX9_replays 42 = .ok (.l2i, 1) := by decide +kernel
theorem dX9_replays_43 : decode cX9_replays 43 = .ok (.putfield 113, 3) := by decide +kernel
theorem dX9_replays_46 : decode cX9_replays 46 = .ok (.aload_n 0, 1) := by decide +kernel
theorem dX9_replays_47 : decode cX9_replays 47 = .ok (.iconst 1, 1) := by decide +kernel
theorem dX9_replays_48 : decode cX9_replays 48 = .ok (.putfield 107, 3) := by decide +kernel
theorem dX9_replays_51 : decode cX9_replays 51 = .ok (.aload_n 0, 1) := by decide +kernel
theorem dX9_replays_52 : decode cX9_replays 52 = .ok (.iconst (-1), 1) := by decide +kernel
theorem dX9_replays_53 : decode cX9_replays 53 = .ok (.putfield 172, 3) := by decide +kernel
theorem dX9_replays_56 : decode cX9_replays 56 = .ok (.aload_n 0, 1) := by decide +kernel
theorem dX9_replays_57 : decode cX9_replays 57 = .ok (.getfield 103, 3) := by decide +kernel
theorem dX9_replays_60 : decode cX9_replays 60 = .ok (.istore 4, 2) := by decide +kernel
theorem dX9_replays_62 : decode cX9_replays 62 = .ok (.iload 4, 2) := by decide +kernel
theorem dX9_replays_64 : decode cX9_replays 64 = .ok (.ifCond .eq 116, 3) := by decide +kernel
theorem dX9_replays_67 : decode cX9_replays 67 = .ok (.aload_n 0, 1) := by decide +kernel
theorem dX9_replays_68 : decode cX9_replays 68 = .ok (.getfield 103, 3) := by decide +kernel
theorem dX9_replays_71 : decode cX9_replays 71 = .ok (.ifCond .eq 109, 3) := by decide +kernel
theorem dX9_replays_74 : decode cX9_replays 74 = .ok (.aload_n 0, 1) := by decide +kernel
theorem dX9_replays_75 : decode cX9_replays 75 = .ok (.getfield 134, 3) := by decide +kernel
theorem dX9_replays_78 : decode cX9_replays 78 = .ok (.ifCond .le 26, 3) := by decide +kernel
theorem dX9_replays_81 : decode cX9_replays 81 = .ok (.aload_n 0, 1) := by decide +kernel
theorem dX9_replays_82 : decode cX9_replays 82 = .ok (.aload_n 0, 1) := by decide +kernel
theorem dX9_replays_83 : decode cX9_replays 83 = .ok (.getfield 107, 3) := by decide +kernel
theorem dX9_replays_86 : decode cX9_replays 86 = .ok (.iload_n 2, 1) := by decide +kernel
theorem dX9_replays_87 : decode cX9_replays 87 = .ok (.if_icmp .lt 7, 3) := by decide +kernel
theorem dX9_replays_90 : decode cX9_replays 90 = .ok (.iconst 1, 1) := by decide +kernel
theorem dX9_replays_91 : decode cX9_replays 91 = .ok (.goto 4, 3) := by decide +kernel
theorem dX9_replays_94 : decode cX9_replays 94 = .ok (.iconst 0, 1) := by decide +kernel
theorem dX9_replays_95 : decode cX9_replays 95 = .ok (.putfield 103, 3) := by decide +kernel
theorem dX9_replays_98 : decode cX9_replays 98 = .ok (.iconst 0, 1) := by decide +kernel
theorem dX9_replays_99 : decode cX9_replays 99 = .ok (.istore 4, 2) := by decide +kernel
theorem dX9_replays_101 : decode cX9_replays 101 = .ok (.goto (-39), 3) := by decide +kernel
theorem dX9_replays_104 : decode cX9_replays 104 = .ok (.aload_n 0, 1) := by decide +kernel
theorem dX9_replays_105 : decode cX9_replays 105 = .ok (.getfield 116, 3) := by decide +kernel
theorem dX9_replays_108 : decode cX9_replays 108 = .ok (.ifCond .eq 31, 3) := by decide +kernel
theorem dX9_replays_111 : decode cX9_replays 111 = .ok (.aload_n 0, 1) := by decide +kernel
theorem dX9_replays_112 : decode cX9_replays 112 = .ok (.getfield 107, 3) := by decide +kernel
theorem dX9_replays_115 : decode cX9_replays 115 = .ok (.iload_n 2, 1) := by decide +kernel
theorem dX9_replays_116 : decode cX9_replays 116 = .ok (.if_icmp .ge 7, 3) := by decide +kernel
theorem dX9_replays_119 : decode cX9_replays 119 = .ok (.iconst 1, 1) := by decide +kernel
theorem dX9_replays_120 : decode cX9_replays 120 = .ok (.goto 4, 3) := by decide +kernel
theorem dX9_replays_123 : decode cX9_replays 123 = .ok (.iconst 0, 1) := by decide +kernel
theorem dX9_replays_124 : decode cX9_replays 124 = .ok (.istore 4, 2) := by decide +kernel
theorem dX9_replays_126 : decode cX9_replays 126 = .ok (.iload 4, 2) := by decide +kernel
theorem dX9_replays_128 : decode cX9_replays 128 = .ok (.ifCond .eq (-66), 3) := by decide +kernel
theorem dX9_replays_131 : decode cX9_replays 131 = .ok (.aload_n 0, 1) := by decide +kernel
theorem dX9_replays_132 : decode cX9_replays 132 = .ok (.iload_n 1, 1) := by decide +kernel
theorem dX9_replays_133 : decode cX9_replays 133 = .ok (.invokevirtual 178, 3) := by decide +kernel
theorem dX9_replays_136 : decode cX9_replays 136 = .ok (.goto (-74), 3) := by decide +kernel
theorem dX9_replays_139 : decode cX9_replays 139 = .ok (.aload_n 0, 1) := by decide +kernel
theorem dX9_replays_140 : decode cX9_replays 140 = .ok (.getfield 131, 3) := by decide +kernel
theorem dX9_replays_143 : decode cX9_replays 143 = .ok (.ifCond .le 15, 3) := by decide +kernel
theorem dX9_replays_146 : decode cX9_replays 146 = .ok (.aload_n 0, 1) := by decide +kernel
theorem dX9_replays_147 : decode cX9_replays 147 = .ok (.iload_n 1, 1) := by decide +kernel
theorem dX9_replays_148 : decode cX9_replays 148 = .ok (.iload_n 2, 1) := by decide +kernel
theorem dX9_replays_149 : decode cX9_replays 149 = .ok (.iload_n 3, 1) := by decide +kernel
theorem dX9_replays_150 : decode cX9_replays 150 = .ok (.invokevirtual 182, 3) := by decide +kernel
theorem dX9_replays_153 : decode cX9_replays 153 = .ok (.istore 4, 2) := by decide +kernel
theorem dX9_replays_155 : decode cX9_replays 155 = .ok (.goto (-93), 3) := by decide +kernel
theorem dX9_replays_158 : decode cX9_replays 158 = .ok (.aload_n 0, 1) := by decide +kernel
theorem dX9_replays_159 : decode cX9_replays 159 = .ok (.iload_n 1, 1) := by decide +kernel
theorem dX9_replays_160 : decode cX9_replays 160 = .ok (.iload_n 2, 1) := by decide +kernel
theorem dX9_replays_161 : decode cX9_replays 161 = .ok (.iload_n 3, 1) := by decide +kernel
theorem dX9_replays_162 : decode cX9_replays 162 = .ok (.invokevirtual 186, 3) := by decide +kernel
theorem dX9_replays_165 : decode cX9_replays 165 = .ok (.istore 4, 2) := by decide +kernel
theorem dX9_replays_167 : decode cX9_replays 167 = .ok (.aload_n 0, 1) := by decide +kernel
theorem dX9_replays_168 : decode cX9_replays 168 = .ok (.getfield 172, 3) := by decide +kernel
theorem dX9_replays_171 : decode cX9_replays 171 = .ok (.iconst (-1), 1) := by decide +kernel
theorem dX9_replays_172 : decode cX9_replays 172 = .ok (.if_icmp .eq (-110), 3) := by decide +kernel
theorem dX9_replays_175 : decode cX9_replays 175 = .ok (.aload_n 0, 1) := by decide +kernel
theorem dX9_replays_176 : decode cX9_replays 176 = .ok (.getfield 172, 3) := by decide +kernel
theorem dX9_replays_179 : decode cX9_replays 179 = .ok (.ireturn, 1) := by decide +kernel
theorem dX9_replays_180 : decode cX9_replays 180 = .ok (.iconst (-1), 1) := by decide +kernel
theorem dX9_replays_181 : decode cX9_replays 181 = .ok (.ireturn, 1) := by decide +kernel
theorem dX9_begins_0 : decode cX9_begins 0 = .ok (.aload_n 0, 1) := by decide +kernel
theorem dX9_begins_1 : decode cX9_begins 1 = .ok (.iconst 1, 1) := by decide +kernel
theorem dX9_begins_2 : decode cX9_begins 2 = .ok (.putfield 103, 3) := by decide +kernel
theorem dX9_begins_5 : decode cX9_begins 5 = .ok (.aload_n 0, 1) := by decide +kernel
theorem dX9_begins_6 : decode cX9_begins 6 = .ok (.iconst 0, 1) := by decide +kernel
theorem dX9_begins_7 : decode cX9_begins 7 = .ok (.putfield 107, 3) := by decide +kernel
theorem dX9_begins_10 : decode cX9_begins 10 = .ok (.aload_n 0, 1) := by decide +kernel
theorem dX9_begins_11 : decode cX9_begins 11 = .ok (.iconst 0, 1) := by decide +kernel
theorem dX9_begins_12 : decode cX9_begins 12 = .ok (.putfield 110, 3) := by decide +kernel
theorem dX9_begins_15 : decode cX9_begins 15 = .ok (.aload_n 0, 1) := by decide +kernel
theorem dX9_begins_16 : decode cX9_begins 16 = .ok (.iconst 0, 1) := by decide +kernel
theorem dX9_begins_17 : decode cX9_begins 17 = .ok (.putfield 113, 3) := by decide +kernel
theorem dX9_begins_20 : decode cX9_begins 20 = .ok (.aload_n 0, 1) := by decide +kernel
theorem dX9_begins_21 : decode cX9_begins 21 = .ok (.iconst 0, 1) := by decide +kernel
theorem dX9_begins_22 : decode cX9_begins 22 = .ok (.putfield 116, 3) := by decide +kernel
theorem dX9_begins_25 : decode cX9_begins 25 = .ok (.aload_n 0, 1) := by decide +kernel
theorem dX9_begins_26 : decode cX9_begins 26 = .ok (.iconst 0, 1) := by decide +kernel
theorem dX9_begins_27 : decode cX9_begins 27 = .ok (.putfield 119, 3) := by decide +kernel
theorem dX9_begins_30 : decode cX9_begins 30 = .ok (.aload_n 0, 1) := by decide +kernel
theorem dX9_begins_31 : decode cX9_begins 31 = .ok (.iconst 0, 1) := by decide +kernel
theorem dX9_begins_32 : decode cX9_begins 32 = .ok (.putfield 122, 3) := by decide +kernel
theorem dX9_begins_35 : decode cX9_begins 35 = .ok (.aload_n 0, 1) := by decide +kernel
theorem dX9_begins_36 : decode cX9_begins 36 = .ok (.iconst 0, 1) := by decide +kernel
theorem dX9_begins_37 : decode cX9_begins 37 = .ok (.putfield 125, 3) := by decide +kernel
theorem dX9_begins_40 : decode cX9_begins 40 = .ok (.aload_n 0, 1) := by decide +kernel
theorem dX9_begins_41 : decode cX9_begins 41 = .ok (.iconst 0, 1) := by decide +kernel
theorem dX9_begins_42 : decode cX9_begins 42 = .ok (.putfield 128, 3) := by decide +kernel
theorem dX9_begins_45 : decode cX9_begins 45 = .ok (.aload_n 0, 1) := by decide +kernel
theorem dX9_begins_46 : decode cX9_begins 46 = .ok (.iconst 0, 1) := by decide +kernel
theorem dX9_begins_47 : decode cX9_begins 47 = .ok (.putfield 131, 3) := by decide +kernel
theorem dX9_begins_50 : decode cX9_begins 50 = .ok (.aload_n 0, 1) := by decide +kernel
theorem dX9_begins_51 : decode cX9_begins 51 = .ok (.iconst 0, 1) := by decide +kernel
theorem dX9_begins_52 : decode cX9_begins 52 = .ok (.putfield 134, 3) := by decide +kernel
theorem dX9_begins_55 : decode cX9_begins 55 = .ok (.aload_n 0, 1) := by decide +kernel
theorem dX9_begins_56 : decode cX9_begins 56 = .ok (.iconst 0, 1) := by decide +kernel
theorem dX9_begins_57 : decode cX9_begins 57 = .ok (.putfield 137, 3) := by decide +kernel
theorem dX9_begins_60 : decode cX9_begins 60 = .ok (.aload_n 0, 1) := by decide +kernel
theorem dX9_begins_61 : decode cX9_begins 61 = .ok (.iconst 0, 1) := by decide +kernel
theorem dX9_begins_62 : decode cX9_begins 62 = .ok (.putfield 140, 3) := by decide +kernel
theorem dX9_begins_65 : decode cX9_begins 65 = .ok (.return_, 1) := by decide +kernel
theorem dX9_comes_0 : decode cX9_comes 0 = .ok (.aload_n 0, 1) := by decide +kernel
theorem dX9_comes_1 : decode cX9_comes 1 = .ok (.getfield 44, 3) := by decide +kernel
theorem dX9_comes_4 : decode cX9_comes 4 = .ok (.sipush 160, 3) := by decide +kernel
theorem dX9_comes_7 : decode cX9_comes 7 = .ok (.iload_n 1, 1) := by decide +kernel
theorem dX9_comes_8 : decode cX9_comes 8 = .ok (.imul, 1) := by decide +kernel
theorem dX9_comes_9 : decode cX9_comes 9 = .ok (.aload_n 0, 1) := by decide +kernel
theorem dX9_comes_10 : decode cX9_comes 10 = .ok (.getfield 107, 3) := by decide +kernel
theorem dX9_comes_13 : decode cX9_comes 13 = .ok (.iadd, 1) := by decide +kernel
theorem dX9_comes_14 : decode cX9_comes 14 = .ok (.iaload, 1) := by decide +kernel
theorem dX9_comes_15 : decode cX9_comes 15 = .ok (.istore_n 2, 1) := by decide +kernel
theorem dX9_comes_16 : decode cX9_comes 16 = .ok (.aload_n 0, 1) := by decide +kernel
theorem dX9_comes_17 : decode cX9_comes 17 = .ok (.getfield 47, 3) := by decide +kernel
theorem dX9_comes_20 : decode cX9_comes 20 = .ok (.sipush 160, 3) := by decide +kernel
theorem dX9_comes_23 : decode cX9_comes 23 = .ok (.iload_n 1, 1) := by decide +kernel
theorem dX9_comes_24 : decode cX9_comes 24 = .ok (.imul, 1) := by decide +kernel
theorem dX9_comes_25 : decode cX9_comes 25 = .ok (.aload_n 0, 1) := by decide +kernel
theorem dX9_comes_26 : decode cX9_comes 26 = .ok (.getfield 107, 3) := by decide +kernel
theorem dX9_comes_29 : decode cX9_comes 29 = .ok (.iadd, 1) := by decide +kernel
theorem dX9_comes_30 : decode cX9_comes 30 = .ok (.laload, 1) := by decide +kernel
theorem dX9_comes_31 : decode cX9_comes 31 = .ok (.lstore_n 3, 1) := by decide +kernel
theorem dX9_comes_32 : decode cX9_comes 32 = .ok (.aload_n 0, 1) := by decide +kernel
theorem dX9_comes_33 : decode cX9_comes 33 = .ok (.getfield 116, 3) := by decide +kernel
theorem dX9_comes_36 : decode cX9_comes 36 = .ok (.iconst 1, 1) := by decide +kernel
theorem dX9_comes_37 : decode cX9_comes 37 = .ok (.if_icmp .eq 12, 3) := by decide +kernel
theorem dX9_comes_40 : decode cX9_comes 40 = .ok (.aload_n 0, 1) := by decide +kernel
theorem dX9_comes_41 : decode cX9_comes 41 = .ok (.getfield 116, 3) := by decide +kernel
theorem dX9_comes_44 : decode cX9_comes 44 = .ok (.bipush 6, 2) := by decide +kernel
theorem dX9_comes_46 : decode cX9_comes 46 = .ok (.if_icmp .ne 7, 3) := by decide +kernel
theorem dX9_comes_49 : decode cX9_comes 49 = .ok (.iconst 1, 1) := by decide +kernel
theorem dX9_comes_50 : decode cX9_comes 50 = .ok (.goto 4, 3) := by decide +kernel
theorem dX9_comes_53 : decode cX9_comes 53 = .ok (.iconst 0, 1) := by decide +kernel
theorem dX9_comes_54 : decode cX9_comes 54 = .ok (.istore 5, 2) := by decide +kernel
theorem dX9_comes_56 : decode cX9_comes 56 = .ok (.iload_n 2, 1) := by decide +kernel
theorem dX9_comes_57 : decode cX9_comes 57 = .ok (.bipush 6, 2) := by decide +kernel
theorem dX9_comes_59 : decode cX9_comes 59 = .ok (.if_icmp .eq 59, 3) := by decide +kernel
theorem dX9_comes_62 : decode cX9_comes 62 = .ok (.iload_n 2, 1) := by decide +kernel
theorem dX9_comes_63 : decode cX9_comes 63 = .ok (.bipush 12, 2) := by decide +kernel
theorem dX9_comes_65 : decode cX9_comes 65 = .ok (.if_icmp .eq 53, 3) := by decide +kernel
theorem dX9_comes_68 : decode cX9_comes 68 = .ok (.iload 5, 2) := by decide +kernel
theorem dX9_comes_70 : decode cX9_comes 70 = .ok (.ifCond .eq 13, 3) := by decide +kernel
theorem dX9_comes_73 : decode cX9_comes 73 = .ok (.iload_n 2, 1) := by decide +kernel
theorem dX9_comes_74 : decode cX9_comes 74 = .ok (.iconst 2, 1) := by decide +kernel
theorem dX9_comes_75 : decode cX9_comes 75 = .ok (.if_icmp .eq 43, 3) := by decide +kernel
theorem dX9_comes_78 : decode cX9_comes 78 = .ok (.iload_n 2, 1) := by decide +kernel
theorem dX9_comes_79 : decode cX9_comes 79 = .ok (.iconst 3, 1) := by decide +kernel
theorem dX9_comes_80 : decode cX9_comes 80 = .ok (.if_icmp .eq 38, 3) := by decide +kernel
theorem dX9_comes_83 : decode cX9_comes 83 = .ok (.iload_n 2, 1) := by decide +kernel
theorem dX9_comes_84 : decode cX9_comes 84 = .ok (.iconst 5, 1) := by decide +kernel
theorem dX9_comes_85 : decode cX9_comes 85 = .ok (.if_icmp .ne 19, 3) := by decide +kernel
theorem dX9_comes_88 : decode cX9_comes 88 = .ok (.aload_n 0, 1) := by decide +kernel
theorem dX9_comes_89 : decode cX9_comes 89 = .ok (.getfield 116, 3) := by decide +kernel
theorem dX9_comes_92 : decode cX9_comes 92 = .ok (.iconst 2, 1) := by decide +kernel
theorem dX9_comes_93 : decode cX9_comes 93 = .ok (.if_icmp .eq 25, 3) := by decide +kernel
theorem dX9_comes_96 : decode cX9_comes 96 = .ok (.aload_n 0, 1) := by decide +kernel
theorem dX9_comes_97 : decode cX9_comes 97 = .ok (.getfield 116, 3) := by decide +kernel
theorem dX9_comes_100 : decode cX9_comes 100 = .ok (.iconst 4, 1) := by decide +kernel
theorem dX9_comes_101 : decode cX9_comes 101 = .ok (.if_icmp .eq 17, 3) := by decide +kernel
theorem dX9_comes_104 : decode cX9_comes 104 = .ok (.iload_n 2, 1) := by decide +kernel
theorem dX9_comes_105 : decode cX9_comes 105 = .ok (.bipush 8, 2) := by decide +kernel
theorem dX9_comes_107 : decode cX9_comes 107 = .ok (.if_icmp .ne 15, 3) := by decide +kernel
theorem dX9_comes_110 : decode cX9_comes 110 = .ok (.aload_n 0, 1) := by decide +kernel
theorem dX9_comes_111 : decode cX9_comes 111 = .ok (.getfield 116, 3) := by decide +kernel
theorem dX9_comes_114 : decode cX9_comes 114 = .ok (.iconst 5, 1) := by decide +kernel
theorem dX9_comes_115 : decode cX9_comes 115 = .ok (.if_icmp .ne 7, 3) := by decide +kernel
theorem dX9_comes_118 : decode cX9_comes 118 = .ok (.iconst 1, 1) := by decide +kernel
theorem dX9_comes_119 : decode cX9_comes 119 = .ok (.goto 4, 3) := by decide +kernel
theorem dX9_comes_122 : decode cX9_comes 122 = .ok (.iconst 0, 1) := by decide +kernel
theorem dX9_comes_123 : decode cX9_comes 123 = .ok (.istore 6, 2) := by decide +kernel
theorem dX9_comes_125 : decode cX9_comes 125 = .ok (.iload 6, 2) := by decide +kernel
theorem dX9_comes_127 : decode cX9_comes 127 = .ok (.ifCond .ne 9, 3) := by decide +kernel
theorem dX9_comes_130 : decode cX9_comes 130 = .ok (.aload_n 0, 1) := by decide +kernel
theorem dX9_comes_131 : decode cX9_comes 131 = .ok (.iconst 0, 1) := by decide +kernel
theorem dX9_comes_132 : decode cX9_comes 132 = .ok (.putfield 103, 3) := by decide +kernel
theorem dX9_comes_135 : decode cX9_comes 135 = .ok (.return_, 1) := by decide +kernel
theorem dX9_comes_136 : decode cX9_comes 136 = .ok (.aload_n 0, 1) := by decide +kernel
theorem dX9_comes_137 : decode cX9_comes 137 = .ok (.dup, 1) := by decide +kernel
theorem dX9_comes_138 : decode cX9_comes 138 = .ok (.getfield 107, 3) := by decide +kernel
theorem dX9_comes_141 : decode cX9_comes 141 = .ok (.iconst 1, 1) := by decide +kernel
theorem dX9_comes_142 : decode cX9_comes 142 = .ok (.iadd, 1) := by decide +kernel
theorem dX9_comes_143 : decode cX9_comes 143 = .ok (.putfield 107, 3) := by decide +kernel
theorem dX9_comes_146 : decode cX9_comes 146 = .ok (.aload_n 0, 1) := by decide +kernel
theorem dX9_comes_147 : decode cX9_comes 147 = .ok (.iconst 0, 1) := by decide +kernel
theorem dX9_comes_148 : decode cX9_comes 148 = .ok (.putfield 137, 3) := by decide +kernel
theorem dX9_comes_151 : decode cX9_comes 151 = .ok (.iload_n 2, 1) := by decide +kernel
theorem dX9_comes_152 : decode cX9_comes 152 = .ok (.bipush 6, 2) := by decide +kernel
theorem dX9_comes_154 : decode cX9_comes 154 = .ok (.if_icmp .ne 113, 3) := by decide +kernel
theorem dX9_comes_157 : decode cX9_comes 157 = .ok (.aload_n 0, 1) := by decide +kernel
theorem dX9_comes_158 : decode cX9_comes 158 = .ok (.getfield 75, 3) := by decide +kernel
theorem dX9_comes_161 : decode cX9_comes 161 = .ok (.aload_n 0, 1) := by decide +kernel
theorem dX9_comes_162 : decode cX9_comes 162 = .ok (.getfield 140, 3) := by decide +kernel
theorem dX9_comes_165 : decode cX9_comes 165 = .ok (.lload_n 3, 1) := by decide +kernel
theorem dX9_comes_166 : decode cX9_comes 166 = .ok (.ldc2_w 147, 3) := by decide +kernel
theorem dX9_comes_169 : decode cX9_comes 169 = .ok (.ldiv, 1) := by decide +kernel
theorem dX9_comes_170 : decode cX9_comes 170 = .ok (.l2i, 1) := by decide +kernel
theorem dX9_comes_171 : decode cX9_comes 171 = .ok (.iastore, 1) := by decide +kernel
theorem dX9_comes_172 : decode cX9_comes 172 = .ok (.aload_n 0, 1) := by decide +kernel
theorem dX9_comes_173 : decode cX9_comes 173 = .ok (.getfield 78, 3) := by decide +kernel
theorem dX9_comes_176 : decode cX9_comes 176 = .ok (.aload_n 0, 1) := by decide +kernel
theorem dX9_comes_177 : decode cX9_comes 177 = .ok (.getfield 140, 3) := by decide +kernel
theorem dX9_comes_180 : decode cX9_comes 180 = .ok (.lload_n 3, 1) := by decide +kernel
theorem dX9_comes_181 : decode cX9_comes 181 = .ok (.ldc2_w 147, 3) := by decide +kernel
theorem dX9_comes_184 : decode cX9_comes 184 = .ok (.lrem, 1) := by decide +kernel
theorem dX9_comes_185 : decode cX9_comes 185 = .ok (.l2i, 1) := by decide +kernel
theorem dX9_comes_186 : decode cX9_comes 186 = .ok (.iastore, 1) := by decide +kernel
theorem dX9_comes_187 : decode cX9_comes 187 = .ok (.aload_n 0, 1) := by decide +kernel
theorem dX9_comes_188 : decode cX9_comes 188 = .ok (.dup, 1) := by decide +kernel
theorem dX9_comes_189 : decode cX9_comes 189 = .ok (.getfield 140, 3) := by decide +kernel
theorem dX9_comes_192 : decode cX9_comes 192 = .ok (.iconst 1, 1) := by decide +kernel
theorem dX9_comes_193 : decode cX9_comes 193 = .ok (.iadd, 1) := by decide +kernel
theorem dX9_comes_194 : decode cX9_comes 194 = .ok (.putfield 140, 3) := by decide +kernel
theorem dX9_comes_197 : decode cX9_comes 197 = .ok (.aload_n 0, 1) := by decide +kernel
theorem dX9_comes_198 : decode cX9_comes 198 = .ok (.getfield 116, 3) := by decide +kernel
theorem dX9_comes_201 : decode cX9_comes 201 = .ok (.iconst 3, 1) := by decide +kernel
theorem dX9_comes_202 : decode cX9_comes 202 = .ok (.if_icmp .eq 11, 3) := by decide +kernel
theorem dX9_comes_205 : decode cX9_comes 205 = .ok (.aload_n 0, 1) := by decide +kernel
theorem dX9_comes_206 : decode cX9_comes 206 = .ok (.getfield 116, 3) := by decide +kernel
theorem dX9_comes_209 : decode cX9_comes 209 = .ok (.iconst 4, 1) := by decide +kernel
theorem dX9_comes_210 : decode cX9_comes 210 = .ok (.if_icmp .ne 313, 3) := by decide +kernel
theorem dX9_comes_213 : decode cX9_comes 213 = .ok (.lload_n 3, 1) := by decide +kernel
theorem dX9_comes_214 : decode cX9_comes 214 = .ok (.ldc2_w 147, 3) := by decide +kernel
theorem dX9_comes_217 : decode cX9_comes 217 = .ok (.ldiv, 1) := by decide +kernel
theorem dX9_comes_218 : decode cX9_comes 218 = .ok (.aload_n 0, 1) := by decide +kernel
theorem dX9_comes_219 : decode cX9_comes 219 = .ok (.getfield 119, 3) := by decide +kernel
theorem dX9_comes_222 : decode cX9_comes 222 = .ok (.i2l, 1) := by decide +kernel
theorem dX9_comes_223 : decode cX9_comes 223 = .ok (.lcmp, 1) := by decide +kernel
theorem dX9_comes_224 : decode cX9_comes 224 = .ok (.ifCond .ne 299, 3) := by decide +kernel
theorem dX9_comes_227 : decode cX9_comes 227 = .ok (.aload_n 0, 1) := by decide +kernel
theorem dX9_comes_228 : decode cX9_comes 228 = .ok (.aload_n 0, 1) := by decide +kernel
theorem dX9_comes_229 : decode cX9_comes 229 = .ok (.aload_n 0, 1) := by decide +kernel
theorem dX9_comes_230 : decode cX9_comes 230 = .ok (.getfield 119, 3) := by decide +kernel
theorem dX9_comes_233 : decode cX9_comes 233 = .ok (.invokevirtual 149, 3) := by decide +kernel
theorem dX9_comes_236 : decode cX9_comes 236 = .ok (.invokevirtual 153, 3) := by decide +kernel
theorem dX9_comes_239 : decode cX9_comes 239 = .ok (.istore 7, 2) := by decide +kernel
theorem dX9_comes_241 : decode cX9_comes 241 = .ok (.aload_n 0, 1) := by decide +kernel
theorem dX9_comes_242 : decode cX9_comes 242 = .ok (.aload_n 0, 1) := by decide +kernel
theorem dX9_comes_243 : decode cX9_comes 243 = .ok (.getfield 116, 3) := by decide +kernel
theorem dX9_comes_246 : decode cX9_comes 246 = .ok (.iconst 4, 1) := by decide +kernel
theorem dX9_comes_247 : decode cX9_comes 247 = .ok (.if_icmp .ne 7, 3) := by decide +kernel
theorem dX9_comes_250 : decode cX9_comes 250 = .ok (.iconst 1, 1) := by decide +kernel
theorem dX9_comes_251 : decode cX9_comes 251 = .ok (.goto 5, 3) := by decide +kernel
theorem dX9_comes_254 : decode cX9_comes 254 = .ok (.iload 7, 2) := by decide +kernel
theorem dX9_comes_256 : decode cX9_comes 256 = .ok (.putfield 113, 3) := by decide +kernel
theorem dX9_comes_259 : decode cX9_comes 259 = .ok (.aload_n 0, 1) := by decide +kernel
theorem dX9_comes_260 : decode cX9_comes 260 = .ok (.iconst 0, 1) := by decide +kernel
theorem dX9_comes_261 : decode cX9_comes 261 = .ok (.putfield 116, 3) := by decide +kernel
theorem dX9_comes_264 : decode cX9_comes 264 = .ok (.goto 259, 3) := by decide +kernel
theorem dX9_comes_267 : decode cX9_comes 267 = .ok (.iload_n 2, 1) := by decide +kernel
theorem dX9_comes_268 : decode cX9_comes 268 = .ok (.bipush 12, 2) := by decide +kernel
theorem dX9_comes_270 : decode cX9_comes 270 = .ok (.if_icmp .ne 99, 3) := by decide +kernel
theorem dX9_comes_273 : decode cX9_comes 273 = .ok (.aload_n 0, 1) := by decide +kernel
theorem dX9_comes_274 : decode cX9_comes 274 = .ok (.getfield 125, 3) := by decide +kernel
theorem dX9_comes_277 : decode cX9_comes 277 = .ok (.ifCond .eq 11, 3) := by decide +kernel
theorem dX9_comes_280 : decode cX9_comes 280 = .ok (.aload_n 0, 1) := by decide +kernel
theorem dX9_comes_281 : decode cX9_comes 281 = .ok (.iconst 1, 1) := by decide +kernel
theorem dX9_comes_282 : decode cX9_comes 282 = .ok (.putfield 128, 3) := by decide +kernel
theorem dX9_comes_285 : decode cX9_comes 285 = .ok (.goto 238, 3) := by decide +kernel
theorem dX9_comes_288 : decode cX9_comes 288 = .ok (.aload_n 0, 1) := by decide +kernel
theorem dX9_comes_289 : decode cX9_comes 289 = .ok (.getfield 131, 3) := by decide +kernel
theorem dX9_comes_292 : decode cX9_comes 292 = .ok (.ifCond .ne 231, 3) := by decide +kernel
theorem dX9_comes_295 : decode cX9_comes 295 = .ok (.aload_n 0, 1) := by decide +kernel
theorem dX9_comes_296 : decode cX9_comes 296 = .ok (.getfield 116, 3) := by decide +kernel
theorem dX9_comes_299 : decode cX9_comes 299 = .ok (.iconst 5, 1) := by decide +kernel
theorem dX9_comes_300 : decode cX9_comes 300 = .ok (.if_icmp .ne 56, 3) := by decide +kernel
theorem dX9_comes_303 : decode cX9_comes 303 = .ok (.aload_n 0, 1) := by decide +kernel
theorem dX9_comes_304 : decode cX9_comes 304 = .ok (.getfield 156, 3) := by decide +kernel
theorem dX9_comes_307 : decode cX9_comes 307 = .ok (.ifCond .eq 49, 3) := by decide +kernel
theorem dX9_comes_310 : decode cX9_comes 310 = .ok (.aload_n 0, 1) := by decide +kernel
theorem dX9_comes_311 : decode cX9_comes 311 = .ok (.getfield 107, 3) := by decide +kernel
theorem dX9_comes_314 : decode cX9_comes 314 = .ok (.aload_n 0, 1) := by decide +kernel
theorem dX9_comes_315 : decode cX9_comes 315 = .ok (.getfield 38, 3) := by decide +kernel
theorem dX9_comes_318 : decode cX9_comes 318 = .ok (.iload_n 1, 1) := by decide +kernel
theorem dX9_comes_319 : decode cX9_comes 319 = .ok (.iaload, 1) := by decide +kernel
theorem dX9_comes_320 : decode cX9_comes 320 = .ok (.if_icmp .le 36, 3) := by decide +kernel
theorem dX9_comes_323 : decode cX9_comes 323 = .ok (.aload_n 0, 1) := by decide +kernel
theorem dX9_comes_324 : decode cX9_comes 324 = .ok (.getfield 38, 3) := by decide +kernel
theorem dX9_comes_327 : decode cX9_comes 327 = .ok (.iload_n 1, 1) := by decide +kernel
theorem dX9_comes_328 : decode cX9_comes 328 = .ok (.aload_n 0, 1) := by decide +kernel
theorem dX9_comes_329 : decode cX9_comes 329 = .ok (.getfield 107, 3) := by decide +kernel
theorem dX9_comes_332 : decode cX9_comes 332 = .ok (.iastore, 1) := by decide +kernel
theorem dX9_comes_333 : decode cX9_comes 333 = .ok (.aload_n 0, 1) := by decide +kernel
theorem dX9_comes_334 : decode cX9_comes 334 = .ok (.getfield 87, 3) := by decide +kernel
theorem dX9_comes_337 : decode cX9_comes 337 = .ok (.aload_n 0, 1) := by decide +kernel
theorem dX9_comes_338 : decode cX9_comes 338 = .ok (.getfield 159, 3) := by decide +kernel
theorem dX9_comes_341 : decode cX9_comes 341 = .ok (.aload_n 0, 1) := by decide +kernel
theorem dX9_comes_342 : decode cX9_comes 342 = .ok (.getfield 119, 3) := by decide +kernel
theorem dX9_comes_345 : decode cX9_comes 345 = .ok (.iastore, 1) := by decide +kernel
theorem dX9_comes_346 : decode cX9_comes 346 = .ok (.aload_n 0, 1) := by decide +kernel
theorem dX9_comes_347 : decode cX9_comes 347 = .ok (.dup, 1) := by decide +kernel
theorem dX9_comes_348 : decode cX9_comes 348 = .ok (.getfield 159, 3) := by decide +kernel
theorem dX9_comes_351 : decode cX9_comes 351 = .ok (.iconst 1, 1) := by decide +kernel
theorem dX9_comes_352 : decode cX9_comes 352 = .ok (.iadd, 1) := by decide +kernel
theorem dX9_comes_353 : decode cX9_comes 353 = .ok (.putfield 159, 3) := by decide +kernel
theorem dX9_comes_356 : decode cX9_comes 356 = .ok (.aload_n 0, 1) := by decide +kernel
theorem dX9_comes_357 : decode cX9_comes 357 = .ok (.iconst 0, 1) := by decide +kernel
theorem dX9_comes_358 : decode cX9_comes 358 = .ok (.putfield 116, 3) := by decide +kernel
theorem dX9_comes_361 : decode cX9_comes 361 = .ok (.aload_n 0, 1) := by decide +kernel
theorem dX9_comes_362 : decode cX9_comes 362 = .ok (.iconst 3, 1) := by decide +kernel
theorem dX9_comes_363 : decode cX9_comes 363 = .ok (.putfield 131, 3) := by decide +kernel
theorem dX9_comes_366 : decode cX9_comes 366 = .ok (.goto 157, 3) := by decide +kernel
theorem dX9_comes_369 : decode cX9_comes 369 = .ok (.aload_n 0, 1) := by decide +kernel
theorem dX9_comes_370 : decode cX9_comes 370 = .ok (.iload_n 2, 1) := by decide +kernel
theorem dX9_comes_371 : decode cX9_comes 371 = .ok (.iconst 2, 1) := by decide +kernel
theorem dX9_comes_372 : decode cX9_comes 372 = .ok (.if_icmp .ne 16, 3) := by decide +kernel
theorem dX9_comes_375 : decode cX9_comes 375 = .ok (.aload_n 0, 1) := by decide +kernel
theorem dX9_comes_376 : decode cX9_comes 376 = .ok (.getfield 116, 3) := by decide +kernel
theorem dX9_comes_379 : decode cX9_comes 379 = .ok (.iconst 1, 1) := by decide +kernel
theorem dX9_comes_380 : decode cX9_comes 380 = .ok (.if_icmp .ne 8, 3) := by decide +kernel
theorem dX9_comes_383 : decode cX9_comes 383 = .ok (.lload_n 3, 1) := by decide +kernel
theorem dX9_comes_384 : decode cX9_comes 384 = .ok (.l2i, 1) := by decide +kernel
theorem dX9_comes_385 : decode cX9_comes 385 = .ok (.goto 24, 3) := by decide +kernel
theorem dX9_comes_388 : decode cX9_comes 388 = .ok (.iload_n 2, 1) := by decide +kernel
theorem dX9_comes_389 : decode cX9_comes 389 = .ok (.iconst 5, 1) := by decide +kernel
theorem dX9_comes_390 : decode cX9_comes 390 = .ok (.if_icmp .ne 15, 3) := by decide +kernel
theorem dX9_comes_393 : decode cX9_comes 393 = .ok (.aload_n 0, 1) := by decide +kernel
theorem dX9_comes_394 : decode cX9_comes 394 = .ok (.getfield 116, 3) := by decide +kernel
theorem dX9_comes_397 : decode cX9_comes 397 = .ok (.iconst 4, 1) := by decide +kernel
theorem dX9_comes_398 : decode cX9_comes 398 = .ok (.if_icmp .ne 7, 3) := by decide +kernel
theorem dX9_comes_401 : decode cX9_comes 401 = .ok (.iconst 0, 1) := by decide +kernel
theorem dX9_comes_402 : decode cX9_comes 402 = .ok (.goto 7, 3) := by decide +kernel
theorem dX9_comes_405 : decode cX9_comes 405 = .ok (.aload_n 0, 1) := by decide +kernel
theorem dX9_comes_406 : decode cX9_comes 406 = .ok (.getfield 113, 3) := by decide +kernel
theorem dX9_comes_409 : decode cX9_comes 409 = .ok (.putfield 113, 3) := by decide +kernel
theorem dX9_comes_412 : decode cX9_comes 412 = .ok (.aload_n 0, 1) := by decide +kernel
theorem dX9_comes_413 : decode cX9_comes 413 = .ok (.iload_n 2, 1) := by decide +kernel
theorem dX9_comes_414 : decode cX9_comes 414 = .ok (.iconst 3, 1) := by decide +kernel
theorem dX9_comes_415 : decode cX9_comes 415 = .ok (.if_icmp .ne 15, 3) := by decide +kernel
theorem dX9_comes_418 : decode cX9_comes 418 = .ok (.aload_n 0, 1) := by decide +kernel
theorem dX9_comes_419 : decode cX9_comes 419 = .ok (.getfield 116, 3) := by decide +kernel
theorem dX9_comes_422 : decode cX9_comes 422 = .ok (.iconst 1, 1) := by decide +kernel
theorem dX9_comes_423 : decode cX9_comes 423 = .ok (.if_icmp .ne 7, 3) := by decide +kernel
theorem dX9_comes_426 : decode cX9_comes 426 = .ok (.iconst 2, 1) := by decide +kernel
theorem dX9_comes_427 : decode cX9_comes 427 = .ok (.goto 7, 3) := by decide +kernel
theorem dX9_comes_430 : decode cX9_comes 430 = .ok (.aload_n 0, 1) := by decide +kernel
theorem dX9_comes_431 : decode cX9_comes 431 = .ok (.getfield 131, 3) := by decide +kernel
theorem dX9_comes_434 : decode cX9_comes 434 = .ok (.putfield 131, 3) := by decide +kernel
theorem dX9_comes_437 : decode cX9_comes 437 = .ok (.iload_n 2, 1) := by decide +kernel
theorem dX9_comes_438 : decode cX9_comes 438 = .ok (.bipush 8, 2) := by decide +kernel
theorem dX9_comes_440 : decode cX9_comes 440 = .ok (.if_icmp .ne 78, 3) := by decide +kernel
theorem dX9_comes_443 : decode cX9_comes 443 = .ok (.lload_n 3, 1) := by decide +kernel
theorem dX9_comes_444 : decode cX9_comes 444 = .ok (.ldc2_w 162, 3) := by decide +kernel
theorem dX9_comes_447 : decode cX9_comes 447 = .ok (.lrem, 1) := by decide +kernel
theorem dX9_comes_448 : decode cX9_comes 448 = .ok (.lconst 0, 1) := by decide +kernel
theorem dX9_comes_449 : decode cX9_comes 449 = .ok (.lcmp, 1) := by decide +kernel
theorem dX9_comes_450 : decode cX9_comes 450 = .ok (.ifCond .ge 15, 3) := by decide +kernel
theorem dX9_comes_453 : decode cX9_comes 453 = .ok (.lload_n 3, 1) := by decide +kernel
theorem dX9_comes_454 : decode cX9_comes 454 = .ok (.ldc2_w 162, 3) := by decide +kernel
theorem dX9_comes_457 : decode cX9_comes 457 = .ok (.lrem, 1) := by decide +kernel
theorem dX9_comes_458 : decode cX9_comes 458 = .ok (.ldc2_w 162, 3) := by decide +kernel
theorem dX9_comes_461 : decode cX9_comes 461 = .ok (.ladd, 1) := by decide +kernel
theorem dX9_comes_462 : decode cX9_comes 462 = .ok (.goto 8, 3) := by decide +kernel
theorem dX9_comes_465 : decode cX9_comes 465 = .ok (.lload_n 3, 1) := by decide +kernel
theorem dX9_comes_466 : decode cX9_comes 466 = .ok (.ldc2_w 162, 3) := by decide +kernel
theorem dX9_comes_469 : decode cX9_comes 469 = .ok (.lrem, 1) := by decide +kernel
theorem dX9_comes_470 : decode cX9_comes 470 = .ok (.lstore 7, 2) := by decide +kernel
theorem dX9_comes_472 : decode cX9_comes 472 = .ok (.aload_n 0, 1) := by decide +kernel
theorem dX9_comes_473 : decode cX9_comes 473 = .ok (.lload 7, 2) := by decide +kernel
theorem dX9_comes_475 : decode cX9_comes 475 = .ok (.lconst 1, 1) := by decide +kernel
theorem dX9_comes_476 : decode cX9_comes 476 = .ok (.lcmp, 1) := by decide +kernel
theorem dX9_comes_477 : decode cX9_comes 477 = .ok (.ifCond .ne 15, 3) := by decide +kernel
theorem dX9_comes_480 : decode cX9_comes 480 = .ok (.lload_n 3, 1) := by decide +kernel
theorem dX9_comes_481 : decode cX9_comes 481 = .ok (.lload 7, 2) := by decide +kernel
theorem dX9_comes_483 : decode cX9_comes 483 = .ok (.lsub, 1) := by decide +kernel
theorem dX9_comes_484 : decode cX9_comes 484 = .ok (.ldc2_w 162, 3) := by decide +kernel
theorem dX9_comes_487 : decode cX9_comes 487 = .ok (.ldiv, 1) := by decide +kernel
theorem dX9_comes_488 : decode cX9_comes 488 = .ok (.l2i, 1) := by decide +kernel
theorem dX9_comes_489 : decode cX9_comes 489 = .ok (.goto 7, 3) := by decide +kernel
theorem dX9_comes_492 : decode cX9_comes 492 = .ok (.aload_n 0, 1) := by decide +kernel
theorem dX9_comes_493 : decode cX9_comes 493 = .ok (.getfield 113, 3) := by decide +kernel
theorem dX9_comes_496 : decode cX9_comes 496 = .ok (.putfield 113, 3) := by decide +kernel
theorem dX9_comes_499 : decode cX9_comes 499 = .ok (.aload_n 0, 1) := by decide +kernel
theorem dX9_comes_500 : decode cX9_comes 500 = .ok (.lload 7, 2) := by decide +kernel
theorem dX9_comes_502 : decode cX9_comes 502 = .ok (.lconst 1, 1) := by decide +kernel
theorem dX9_comes_503 : decode cX9_comes 503 = .ok (.lcmp, 1) := by decide +kernel
theorem dX9_comes_504 : decode cX9_comes 504 = .ok (.ifCond .ne 10, 3) := by decide +kernel
theorem dX9_comes_507 : decode cX9_comes 507 = .ok (.aload_n 0, 1) := by decide +kernel
theorem dX9_comes_508 : decode cX9_comes 508 = .ok (.getfield 131, 3) := by decide +kernel
theorem dX9_comes_511 : decode cX9_comes 511 = .ok (.goto 4, 3) := by decide +kernel
theorem dX9_comes_514 : decode cX9_comes 514 = .ok (.iconst 2, 1) := by decide +kernel
theorem dX9_comes_515 : decode cX9_comes 515 = .ok (.putfield 131, 3) := by decide +kernel
theorem dX9_comes_518 : decode cX9_comes 518 = .ok (.aload_n 0, 1) := by decide +kernel
theorem dX9_comes_519 : decode cX9_comes 519 = .ok (.iconst 0, 1) := by decide +kernel
theorem dX9_comes_520 : decode cX9_comes 520 = .ok (.putfield 116, 3) := by decide +kernel
theorem dX9_comes_523 : decode cX9_comes 523 = .ok (.return_, 1) := by decide +kernel
theorem dX9_keptOf_0 : decode cX9_keptOf 0 = .ok (.iconst 0, 1) := by decide +kernel
theorem dX9_keptOf_1 : decode cX9_keptOf 1 = .ok (.istore_n 2, 1) := by decide +kernel
theorem dX9_keptOf_2 : decode cX9_keptOf 2 = .ok (.iload_n 2, 1) := by decide +kernel
theorem dX9_keptOf_3 : decode cX9_keptOf 3 = .ok (.aload_n 0, 1) := by decide +kernel
theorem dX9_keptOf_4 : decode cX9_keptOf 4 = .ok (.getfield 140, 3) := by decide +kernel
theorem dX9_keptOf_7 : decode cX9_keptOf 7 = .ok (.if_icmp .ge 21, 3) := by decide +kernel
theorem dX9_keptOf_10 : decode cX9_keptOf 10 = .ok (.aload_n 0, 1) := by decide +kernel
theorem dX9_keptOf_11 : decode cX9_keptOf 11 = .ok (.getfield 75, 3) := by decide +kernel
theorem dX9_keptOf_14 : decode cX9_keptOf 14 = .ok (.iload_n 2, 1) := by decide +kernel
theorem dX9_keptOf_15 : decode cX9_keptOf 15 = .ok (.iaload, 1) := by decide +kernel
theorem dX9_keptOf_16 : decode cX9_keptOf 16 = .ok (.iload_n 1, 1) := by decide +kernel
theorem dX9_keptOf_17 : decode cX9_keptOf 17 = .ok (.if_icmp .ne 5, 3) := by decide +kernel
theorem dX9_keptOf_20 : decode cX9_keptOf 20 = .ok (.iload_n 2, 1) := by decide +kernel
theorem dX9_keptOf_21 : decode cX9_keptOf 21 = .ok (.ireturn, 1) := by decide +kernel
theorem dX9_keptOf_22 : decode cX9_keptOf 22 = .ok (.iinc 2 1, 3) := by decide +kernel
theorem dX9_keptOf_25 : decode cX9_keptOf 25 = .ok (.goto (-23), 3) := by decide +kernel
theorem dX9_keptOf_28 : decode cX9_keptOf 28 = .ok (.iconst (-1), 1) := by decide +kernel
theorem dX9_keptOf_29 : decode cX9_keptOf 29 = .ok (.ireturn, 1) := by decide +kernel
theorem dX9_uses_0 : decode cX9_uses 0 = .ok (.aload_n 0, 1) := by decide +kernel
theorem dX9_uses_1 : decode cX9_uses 1 = .ok (.getfield 78, 3) := by decide +kernel
theorem dX9_uses_4 : decode cX9_uses 4 = .ok (.iload_n 1, 1) := by decide +kernel
theorem dX9_uses_5 : decode cX9_uses 5 = .ok (.iaload, 1) := by decide +kernel
theorem dX9_uses_6 : decode cX9_uses 6 = .ok (.istore_n 2, 1) := by decide +kernel
theorem dX9_uses_7 : decode cX9_uses 7 = .ok (.aload_n 0, 1) := by decide +kernel
theorem dX9_uses_8 : decode cX9_uses 8 = .ok (.dup, 1) := by decide +kernel
theorem dX9_uses_9 : decode cX9_uses 9 = .ok (.getfield 140, 3) := by decide +kernel
theorem dX9_uses_12 : decode cX9_uses 12 = .ok (.iconst 1, 1) := by decide +kernel
theorem dX9_uses_13 : decode cX9_uses 13 = .ok (.isub, 1) := by decide +kernel
theorem dX9_uses_14 : decode cX9_uses 14 = .ok (.putfield 140, 3) := by decide +kernel
theorem dX9_uses_17 : decode cX9_uses 17 = .ok (.iload_n 1, 1) := by decide +kernel
theorem dX9_uses_18 : decode cX9_uses 18 = .ok (.istore_n 3, 1) := by decide +kernel
theorem dX9_uses_19 : decode cX9_uses 19 = .ok (.iload_n 3, 1) := by decide +kernel
theorem dX9_uses_20 : decode cX9_uses 20 = .ok (.aload_n 0, 1) := by decide +kernel
theorem dX9_uses_21 : decode cX9_uses 21 = .ok (.getfield 140, 3) := by decide +kernel
theorem dX9_uses_24 : decode cX9_uses 24 = .ok (.if_icmp .ge 37, 3) := by decide +kernel
theorem dX9_uses_27 : decode cX9_uses 27 = .ok (.aload_n 0, 1) := by decide +kernel
theorem dX9_uses_28 : decode cX9_uses 28 = .ok (.getfield 75, 3) := by decide +kernel
theorem dX9_uses_31 : decode cX9_uses 31 = .ok (.iload_n 3, 1) := by decide +kernel
theorem dX9_uses_32 : decode cX9_uses 32 = .ok (.aload_n 0, 1) := by decide +kernel
theorem dX9_uses_33 : decode cX9_uses 33 = .ok (.getfield 75, 3) := by decide +kernel
theorem dX9_uses_36 : decode cX9_uses 36 = .ok (.iload_n 3, 1) := by decide +kernel
theorem dX9_uses_37 : decode cX9_uses 37 = .ok (.iconst 1, 1) := by decide +kernel
theorem dX9_uses_38 : decode cX9_uses 38 = .ok (.iadd, 1) := by decide +kernel
theorem dX9_uses_39 : decode cX9_uses 39 = .ok (.iaload, 1) := by decide +kernel
theorem dX9_uses_40 : decode cX9_uses 40 = .ok (.iastore, 1) := by decide +kernel
theorem dX9_uses_41 : decode cX9_uses 41 = .ok (.aload_n 0, 1) := by decide +kernel
theorem dX9_uses_42 : decode cX9_uses 42 = .ok (.getfield 78, 3) := by decide +kernel
theorem dX9_uses_45 : decode cX9_uses 45 = .ok (.iload_n 3, 1) := by decide +kernel
theorem dX9_uses_46 : decode cX9_uses 46 = .ok (.aload_n 0, 1) := by decide +kernel
theorem dX9_uses_47 : decode cX9_uses 47 = .ok (.getfield 78, 3) := by decide +kernel
theorem dX9_uses_50 : decode cX9_uses 50 = .ok (.iload_n 3, 1) := by decide +kernel
theorem dX9_uses_51 : decode cX9_uses 51 = .ok (.iconst 1, 1) := by decide +kernel
theorem dX9_uses_52 : decode cX9_uses 52 = .ok (.iadd, 1) := by decide +kernel
theorem dX9_uses_53 : decode cX9_uses 53 = .ok (.iaload, 1) := by decide +kernel
theorem dX9_uses_54 : decode cX9_uses 54 = .ok (.iastore, 1) := by decide +kernel
theorem dX9_uses_55 : decode cX9_uses 55 = .ok (.iinc 3 1, 3) := by decide +kernel
theorem dX9_uses_58 : decode cX9_uses 58 = .ok (.goto (-39), 3) := by decide +kernel
theorem dX9_uses_61 : decode cX9_uses 61 = .ok (.iload_n 2, 1) := by decide +kernel
theorem dX9_uses_62 : decode cX9_uses 62 = .ok (.ireturn, 1) := by decide +kernel
theorem dX9_undoes_0 : decode cX9_undoes 0 = .ok (.aload_n 0, 1) := by decide +kernel
theorem dX9_undoes_1 : decode cX9_undoes 1 = .ok (.getfield 122, 3) := by decide +kernel
theorem dX9_undoes_4 : decode cX9_undoes 4 = .ok (.ifCond .eq 11, 3) := by decide +kernel
theorem dX9_undoes_7 : decode cX9_undoes 7 = .ok (.aload_n 0, 1) := by decide +kernel
theorem dX9_undoes_8 : decode cX9_undoes 8 = .ok (.getfield 131, 3) := by decide +kernel
theorem dX9_undoes_11 : decode cX9_undoes 11 = .ok (.iconst 4, 1) := by decide +kernel
theorem dX9_undoes_12 : decode cX9_undoes 12 = .ok (.if_icmp .ne 50, 3) := by decide +kernel
theorem dX9_undoes_15 : decode cX9_undoes 15 = .ok (.aload_n 0, 1) := by decide +kernel
theorem dX9_undoes_16 : decode cX9_undoes 16 = .ok (.iload_n 1, 1) := by decide +kernel
theorem dX9_undoes_17 : decode cX9_undoes 17 = .ok (.iload_n 2, 1) := by decide +kernel
theorem dX9_undoes_18 : decode cX9_undoes 18 = .ok (.iload_n 3, 1) := by decide +kernel
theorem dX9_undoes_19 : decode cX9_undoes 19 = .ok (.bipush 13, 2) := by decide +kernel
theorem dX9_undoes_21 : decode cX9_undoes 21 = .ok (.ldc2_w 162, 3) := by decide +kernel
theorem dX9_undoes_24 : decode cX9_undoes 24 = .ok (.aload_n 0, 1) := by decide +kernel
theorem dX9_undoes_25 : decode cX9_undoes 25 = .ok (.getfield 113, 3) := by decide +kernel
theorem dX9_undoes_28 : decode cX9_undoes 28 = .ok (.i2l, 1) := by decide +kernel
theorem dX9_undoes_29 : decode cX9_undoes 29 = .ok (.lmul, 1) := by decide +kernel
theorem dX9_undoes_30 : decode cX9_undoes 30 = .ok (.aload_n 0, 1) := by decide +kernel
theorem dX9_undoes_31 : decode cX9_undoes 31 = .ok (.getfield 131, 3) := by decide +kernel
theorem dX9_undoes_34 : decode cX9_undoes 34 = .ok (.i2l, 1) := by decide +kernel
theorem dX9_undoes_35 : decode cX9_undoes 35 = .ok (.ladd, 1) := by decide +kernel
theorem dX9_undoes_36 : decode cX9_undoes 36 = .ok (.iconst 0, 1) := by decide +kernel
theorem dX9_undoes_37 : decode cX9_undoes 37 = .ok (.invokevirtual 164, 3) := by decide +kernel
theorem dX9_undoes_40 : decode cX9_undoes 40 = .ok (.istore 4, 2) := by decide +kernel
theorem dX9_undoes_42 : decode cX9_undoes 42 = .ok (.aload_n 0, 1) := by decide +kernel
theorem dX9_undoes_43 : decode cX9_undoes 43 = .ok (.iload 4, 2) := by decide +kernel
theorem dX9_undoes_45 : decode cX9_undoes 45 = .ok (.ifCond .eq 10, 3) := by decide +kernel
theorem dX9_undoes_48 : decode cX9_undoes 48 = .ok (.aload_n 0, 1) := by decide +kernel
theorem dX9_undoes_49 : decode cX9_undoes 49 = .ok (.getfield 131, 3) := by decide +kernel
theorem dX9_undoes_52 : decode cX9_undoes 52 = .ok (.goto 4, 3) := by decide +kernel
theorem dX9_undoes_55 : decode cX9_undoes 55 = .ok (.iconst 0, 1) := by decide +kernel
theorem dX9_undoes_56 : decode cX9_undoes 56 = .ok (.putfield 134, 3) := by decide +kernel
theorem dX9_undoes_59 : decode cX9_undoes 59 = .ok (.iload 4, 2) := by decide +kernel
theorem dX9_undoes_61 : decode cX9_undoes 61 = .ok (.ireturn, 1) := by decide +kernel
theorem dX9_undoes_62 : decode cX9_undoes 62 = .ok (.aload_n 0, 1) := by decide +kernel
theorem dX9_undoes_63 : decode cX9_undoes 63 = .ok (.getfield 72, 3) := by decide +kernel
theorem dX9_undoes_66 : decode cX9_undoes 66 = .ok (.aload_n 0, 1) := by decide +kernel
theorem dX9_undoes_67 : decode cX9_undoes 67 = .ok (.getfield 122, 3) := by decide +kernel
theorem dX9_undoes_70 : decode cX9_undoes 70 = .ok (.iconst 1, 1) := by decide +kernel
theorem dX9_undoes_71 : decode cX9_undoes 71 = .ok (.isub, 1) := by decide +kernel
theorem dX9_undoes_72 : decode cX9_undoes 72 = .ok (.iaload, 1) := by decide +kernel
theorem dX9_undoes_73 : decode cX9_undoes 73 = .ok (.istore 4, 2) := by decide +kernel
theorem dX9_undoes_75 : decode cX9_undoes 75 = .ok (.aload_n 0, 1) := by decide +kernel
theorem dX9_undoes_76 : decode cX9_undoes 76 = .ok (.getfield 107, 3) := by decide +kernel
theorem dX9_undoes_79 : decode cX9_undoes 79 = .ok (.iload_n 2, 1) := by decide +kernel
theorem dX9_undoes_80 : decode cX9_undoes 80 = .ok (.if_icmp .lt 7, 3) := by decide +kernel
theorem dX9_undoes_83 : decode cX9_undoes 83 = .ok (.iconst 1, 1) := by decide +kernel
theorem dX9_undoes_84 : decode cX9_undoes 84 = .ok (.goto 4, 3) := by decide +kernel
theorem dX9_undoes_87 : decode cX9_undoes 87 = .ok (.iconst 0, 1) := by decide +kernel
theorem dX9_undoes_88 : decode cX9_undoes 88 = .ok (.istore 5, 2) := by decide +kernel
theorem dX9_undoes_90 : decode cX9_undoes 90 = .ok (.aload_n 0, 1) := by decide +kernel
theorem dX9_undoes_91 : decode cX9_undoes 91 = .ok (.iload_n 1, 1) := by decide +kernel
theorem dX9_undoes_92 : decode cX9_undoes 92 = .ok (.iload_n 2, 1) := by decide +kernel
theorem dX9_undoes_93 : decode cX9_undoes 93 = .ok (.iload_n 3, 1) := by decide +kernel
theorem dX9_undoes_94 : decode cX9_undoes 94 = .ok (.bipush 11, 2) := by decide +kernel
theorem dX9_undoes_96 : decode cX9_undoes 96 = .ok (.iload 4, 2) := by decide +kernel
theorem dX9_undoes_98 : decode cX9_undoes 98 = .ok (.i2l, 1) := by decide +kernel
theorem dX9_undoes_99 : decode cX9_undoes 99 = .ok (.iconst 0, 1) := by decide +kernel
theorem dX9_undoes_100 : decode cX9_undoes 100 = .ok (.invokevirtual 164, 3) := by decide +kernel
theorem dX9_undoes_103 : decode cX9_undoes 103 = .ok (.ifCond .ne 5, 3) := by decide +kernel
theorem dX9_undoes_106 : decode cX9_undoes 106 = .ok (.iconst 0, 1) := by decide +kernel
theorem dX9_undoes_107 : decode cX9_undoes 107 = .ok (.ireturn, 1) := by decide +kernel
theorem dX9_undoes_108 : decode cX9_undoes 108 = .ok (.aload_n 0, 1) := by decide +kernel
theorem dX9_undoes_109 : decode cX9_undoes 109 = .ok (.dup, 1) := by decide +kernel
theorem dX9_undoes_110 : decode cX9_undoes 110 = .ok (.getfield 122, 3) := by decide +kernel
theorem dX9_undoes_113 : decode cX9_undoes 113 = .ok (.iconst 1, 1) := by decide +kernel
theorem dX9_undoes_114 : decode cX9_undoes 114 = .ok (.isub, 1) := by decide +kernel
theorem dX9_undoes_115 : decode cX9_undoes 115 = .ok (.putfield 122, 3) := by decide +kernel
theorem dX9_undoes_118 : decode cX9_undoes 118 = .ok (.aload_n 0, 1) := by decide +kernel
theorem dX9_undoes_119 : decode cX9_undoes 119 = .ok (.bipush 6, 2) := by decide +kernel
theorem dX9_undoes_121 : decode cX9_undoes 121 = .ok (.putfield 116, 3) := by decide +kernel
theorem dX9_undoes_124 : decode cX9_undoes 124 = .ok (.aload_n 0, 1) := by decide +kernel
theorem dX9_undoes_125 : decode cX9_undoes 125 = .ok (.iload 4, 2) := by decide +kernel
theorem dX9_undoes_127 : decode cX9_undoes 127 = .ok (.putfield 119, 3) := by decide +kernel
theorem dX9_undoes_130 : decode cX9_undoes 130 = .ok (.iload 5, 2) := by decide +kernel
theorem dX9_undoes_132 : decode cX9_undoes 132 = .ok (.ifCond .eq 11, 3) := by decide +kernel
theorem dX9_undoes_135 : decode cX9_undoes 135 = .ok (.aload_n 0, 1) := by decide +kernel
theorem dX9_undoes_136 : decode cX9_undoes 136 = .ok (.iload_n 1, 1) := by decide +kernel
theorem dX9_undoes_137 : decode cX9_undoes 137 = .ok (.iload 4, 2) := by decide +kernel
theorem dX9_undoes_139 : decode cX9_undoes 139 = .ok (.invokevirtual 189, 3) := by decide +kernel
theorem dX9_undoes_142 : decode cX9_undoes 142 = .ok (.pop, 1) := by decide +kernel
theorem dX9_undoes_143 : decode cX9_undoes 143 = .ok (.iconst 1, 1) := by decide +kernel
theorem dX9_undoes_144 : decode cX9_undoes 144 = .ok (.ireturn, 1) := by decide +kernel
theorem dX9_meets_0 : decode cX9_meets 0 = .ok (.aload_n 0, 1) := by decide +kernel
theorem dX9_meets_1 : decode cX9_meets 1 = .ok (.getfield 107, 3) := by decide +kernel
theorem dX9_meets_4 : decode cX9_meets 4 = .ok (.iload_n 2, 1) := by decide +kernel
theorem dX9_meets_5 : decode cX9_meets 5 = .ok (.if_icmp .ge 73, 3) := by decide +kernel
theorem dX9_meets_8 : decode cX9_meets 8 = .ok (.aload_n 0, 1) := by decide +kernel
theorem dX9_meets_9 : decode cX9_meets 9 = .ok (.aload_n 0, 1) := by decide +kernel
theorem dX9_meets_10 : decode cX9_meets 10 = .ok (.getfield 44, 3) := by decide +kernel
theorem dX9_meets_13 : decode cX9_meets 13 = .ok (.sipush 160, 3) := by decide +kernel
theorem dX9_meets_16 : decode cX9_meets 16 = .ok (.iload_n 1, 1) := by decide +kernel
theorem dX9_meets_17 : decode cX9_meets 17 = .ok (.imul, 1) := by decide +kernel
theorem dX9_meets_18 : decode cX9_meets 18 = .ok (.aload_n 0, 1) := by decide +kernel
theorem dX9_meets_19 : decode cX9_meets 19 = .ok (.getfield 107, 3) := by decide +kernel
theorem dX9_meets_22 : decode cX9_meets 22 = .ok (.iadd, 1) := by decide +kernel
theorem dX9_meets_23 : decode cX9_meets 23 = .ok (.iaload, 1) := by decide +kernel
theorem dX9_meets_24 : decode cX9_meets 24 = .ok (.iload 4, 2) := by decide +kernel
theorem dX9_meets_26 : decode cX9_meets 26 = .ok (.if_icmp .ne 33, 3) := by decide +kernel
theorem dX9_meets_29 : decode cX9_meets 29 = .ok (.iload 7, 2) := by decide +kernel
theorem dX9_meets_31 : decode cX9_meets 31 = .ok (.ifCond .ne 24, 3) := by decide +kernel
theorem dX9_meets_34 : decode cX9_meets 34 = .ok (.aload_n 0, 1) := by decide +kernel
theorem dX9_meets_35 : decode cX9_meets 35 = .ok (.getfield 47, 3) := by decide +kernel
theorem dX9_meets_38 : decode cX9_meets 38 = .ok (.sipush 160, 3) := by decide +kernel
theorem dX9_meets_41 : decode cX9_meets 41 = .ok (.iload_n 1, 1) := by decide +kernel
theorem dX9_meets_42 : decode cX9_meets 42 = .ok (.imul, 1) := by decide +kernel
theorem dX9_meets_43 : decode cX9_meets 43 = .ok (.aload_n 0, 1) := by decide +kernel
theorem dX9_meets_44 : decode cX9_meets 44 = .ok (.getfield 107, 3) := by decide +kernel
theorem dX9_meets_47 : decode cX9_meets 47 = .ok (.iadd, 1) := by decide +kernel
theorem dX9_meets_48 : decode cX9_meets 48 = .ok (.laload, 1) := by decide +kernel
theorem dX9_meets_49 : decode cX9_meets 49 = .ok (.lload 5, 2) := by decide +kernel
theorem dX9_meets_51 : decode cX9_meets 51 = .ok (.lcmp, 1) := by decide +kernel
theorem dX9_meets_52 : decode cX9_meets 52 = .ok (.ifCond .ne 7, 3) := by decide +kernel
theorem dX9_meets_55 : decode cX9_meets 55 = .ok (.iconst 1, 1) := by decide +kernel
theorem dX9_meets_56 : decode cX9_meets 56 = .ok (.goto 4, 3) := by decide +kernel
theorem dX9_meets_59 : decode cX9_meets 59 = .ok (.iconst 0, 1) := by decide +kernel
theorem dX9_meets_60 : decode cX9_meets 60 = .ok (.putfield 103, 3) := by decide +kernel
theorem dX9_meets_63 : decode cX9_meets 63 = .ok (.aload_n 0, 1) := by decide +kernel
theorem dX9_meets_64 : decode cX9_meets 64 = .ok (.dup, 1) := by decide +kernel
theorem dX9_meets_65 : decode cX9_meets 65 = .ok (.getfield 107, 3) := by decide +kernel
theorem dX9_meets_68 : decode cX9_meets 68 = .ok (.iconst 1, 1) := by decide +kernel
theorem dX9_meets_69 : decode cX9_meets 69 = .ok (.iadd, 1) := by decide +kernel
theorem dX9_meets_70 : decode cX9_meets 70 = .ok (.putfield 107, 3) := by decide +kernel
theorem dX9_meets_73 : decode cX9_meets 73 = .ok (.aload_n 0, 1) := by decide +kernel
theorem dX9_meets_74 : decode cX9_meets 74 = .ok (.getfield 103, 3) := by decide +kernel
theorem dX9_meets_77 : decode cX9_meets 77 = .ok (.ireturn, 1) := by decide +kernel
theorem dX9_meets_78 : decode cX9_meets 78 = .ok (.iload_n 3, 1) := by decide +kernel
theorem dX9_meets_79 : decode cX9_meets 79 = .ok (.ifCond .eq 22, 3) := by decide +kernel
theorem dX9_meets_82 : decode cX9_meets 82 = .ok (.aload_n 0, 1) := by decide +kernel
theorem dX9_meets_83 : decode cX9_meets 83 = .ok (.iload_n 1, 1) := by decide +kernel
theorem dX9_meets_84 : decode cX9_meets 84 = .ok (.iload 4, 2) := by decide +kernel
theorem dX9_meets_86 : decode cX9_meets 86 = .ok (.lload 5, 2) := by decide +kernel
theorem dX9_meets_88 : decode cX9_meets 88 = .ok (.invokevirtual 143, 3) := by decide +kernel
theorem dX9_meets_91 : decode cX9_meets 91 = .ok (.aload_n 0, 1) := by decide +kernel
theorem dX9_meets_92 : decode cX9_meets 92 = .ok (.dup, 1) := by decide +kernel
theorem dX9_meets_93 : decode cX9_meets 93 = .ok (.getfield 107, 3) := by decide +kernel
theorem dX9_meets_96 : decode cX9_meets 96 = .ok (.iconst 1, 1) := by decide +kernel
theorem dX9_meets_97 : decode cX9_meets 97 = .ok (.iadd, 1) := by decide +kernel
theorem dX9_meets_98 : decode cX9_meets 98 = .ok (.putfield 107, 3) := by decide +kernel
theorem dX9_meets_101 : decode cX9_meets 101 = .ok (.iload_n 3, 1) := by decide +kernel
theorem dX9_meets_102 : decode cX9_meets 102 = .ok (.ireturn, 1) := by decide +kernel
theorem dX9_adds_0 : decode cX9_adds 0 = .ok (.aload_n 0, 1) := by decide +kernel
theorem dX9_adds_1 : decode cX9_adds 1 = .ok (.getfield 44, 3) := by decide +kernel
theorem dX9_adds_4 : decode cX9_adds 4 = .ok (.sipush 160, 3) := by decide +kernel
theorem dX9_adds_7 : decode cX9_adds 7 = .ok (.iload_n 1, 1) := by decide +kernel
theorem dX9_adds_8 : decode cX9_adds 8 = .ok (.imul, 1) := by decide +kernel
theorem dX9_adds_9 : decode cX9_adds 9 = .ok (.aload_n 0, 1) := by decide +kernel
theorem dX9_adds_10 : decode cX9_adds 10 = .ok (.getfield 35, 3) := by decide +kernel
theorem dX9_adds_13 : decode cX9_adds 13 = .ok (.iload_n 1, 1) := by decide +kernel
theorem dX9_adds_14 : decode cX9_adds 14 = .ok (.iaload, 1) := by decide +kernel
theorem dX9_adds_15 : decode cX9_adds 15 = .ok (.iadd, 1) := by decide +kernel
theorem dX9_adds_16 : decode cX9_adds 16 = .ok (.iload_n 2, 1) := by decide +kernel
theorem dX9_adds_17 : decode cX9_adds 17 = .ok (.iastore, 1) := by decide +kernel
theorem dX9_adds_18 : decode cX9_adds 18 = .ok (.aload_n 0, 1) := by decide +kernel
theorem dX9_adds_19 : decode cX9_adds 19 = .ok (.getfield 47, 3) := by decide +kernel
theorem dX9_adds_22 : decode cX9_adds 22 = .ok (.sipush 160, 3) := by decide +kernel
theorem dX9_adds_25 : decode cX9_adds 25 = .ok (.iload_n 1, 1) := by decide +kernel
theorem dX9_adds_26 : decode cX9_adds 26 = .ok (.imul, 1) := by decide +kernel
theorem dX9_adds_27 : decode cX9_adds 27 = .ok (.aload_n 0, 1) := by decide +kernel
theorem dX9_adds_28 : decode cX9_adds 28 = .ok (.getfield 35, 3) := by decide +kernel
theorem dX9_adds_31 : decode cX9_adds 31 = .ok (.iload_n 1, 1) := by decide +kernel
theorem dX9_adds_32 : decode cX9_adds 32 = .ok (.iaload, 1) := by decide +kernel
theorem dX9_adds_33 : decode cX9_adds 33 = .ok (.iadd, 1) := by decide +kernel
theorem dX9_adds_34 : decode cX9_adds 34 = .ok (.lload_n 3, 1) := by decide +kernel
theorem dX9_adds_35 : decode cX9_adds 35 = .ok (.lastore, 1) := by decide +kernel
theorem dX9_adds_36 : decode cX9_adds 36 = .ok (.aload_n 0, 1) := by decide +kernel
theorem dX9_adds_37 : decode cX9_adds 37 = .ok (.getfield 35, 3) := by decide +kernel
theorem dX9_adds_40 : decode cX9_adds 40 = .ok (.iload_n 1, 1) := by decide +kernel
theorem dX9_adds_41 : decode cX9_adds 41 = .ok (.dup2, 1) := by decide +kernel
theorem dX9_adds_42 : decode cX9_adds 42 = .ok (.iaload, 1) := by decide +kernel
theorem dX9_adds_43 : decode cX9_adds 43 = .ok (.iconst 1, 1) := by decide +kernel
theorem dX9_adds_44 : decode cX9_adds 44 = .ok (.iadd, 1) := by decide +kernel
theorem dX9_adds_45 : decode cX9_adds 45 = .ok (.iastore, 1) := by decide +kernel
theorem dX9_adds_46 : decode cX9_adds 46 = .ok (.return_, 1) := by decide +kernel
theorem dX9_makesTask_0 : decode cX9_makesTask 0 = .ok (.aload_n 0, 1) := by decide +kernel
theorem dX9_makesTask_1 : decode cX9_makesTask 1 = .ok (.getfield 51, 3) := by decide +kernel
theorem dX9_makesTask_4 : decode cX9_makesTask 4 = .ok (.aload_n 0, 1) := by decide +kernel
theorem dX9_makesTask_5 : decode cX9_makesTask 5 = .ok (.getfield 100, 3) := by decide +kernel
theorem dX9_makesTask_8 : decode cX9_makesTask 8 = .ok (.iload_n 1, 1) := by decide +kernel
theorem dX9_makesTask_9 : decode cX9_makesTask 9 = .ok (.iastore, 1) := by decide +kernel
theorem dX9_makesTask_10 : decode cX9_makesTask 10 = .ok (.aload_n 0, 1) := by decide +kernel
theorem dX9_makesTask_11 : decode cX9_makesTask 11 = .ok (.getfield 54, 3) := by decide +kernel
theorem dX9_makesTask_14 : decode cX9_makesTask 14 = .ok (.aload_n 0, 1) := by decide +kernel
theorem dX9_makesTask_15 : decode cX9_makesTask 15 = .ok (.getfield 100, 3) := by decide +kernel
theorem dX9_makesTask_18 : decode cX9_makesTask 18 = .ok (.iload_n 2, 1) := by decide +kernel
theorem dX9_makesTask_19 : decode cX9_makesTask 19 = .ok (.iastore, 1) := by decide +kernel
theorem dX9_makesTask_20 : decode cX9_makesTask 20 = .ok (.aload_n 0, 1) := by decide +kernel
theorem dX9_makesTask_21 : decode cX9_makesTask 21 = .ok (.getfield 57, 3) := by decide +kernel
theorem dX9_makesTask_24 : decode cX9_makesTask 24 = .ok (.aload_n 0, 1) := by decide +kernel
theorem dX9_makesTask_25 : decode cX9_makesTask 25 = .ok (.getfield 100, 3) := by decide +kernel
theorem dX9_makesTask_28 : decode cX9_makesTask 28 = .ok (.iconst 0, 1) := by decide +kernel
theorem dX9_makesTask_29 : decode cX9_makesTask 29 = .ok (.iastore, 1) := by decide +kernel
theorem dX9_makesTask_30 : decode cX9_makesTask 30 = .ok (.aload_n 0, 1) := by decide +kernel
theorem dX9_makesTask_31 : decode cX9_makesTask 31 = .ok (.getfield 41, 3) := by decide +kernel
theorem dX9_makesTask_34 : decode cX9_makesTask 34 = .ok (.iload_n 1, 1) := by decide +kernel
theorem dX9_makesTask_35 : decode cX9_makesTask 35 = .ok (.aload_n 0, 1) := by decide +kernel
theorem dX9_makesTask_36 : decode cX9_makesTask 36 = .ok (.getfield 100, 3) := by decide +kernel
theorem dX9_makesTask_39 : decode cX9_makesTask 39 = .ok (.iastore, 1) := by decide +kernel
theorem dX9_makesTask_40 : decode cX9_makesTask 40 = .ok (.aload_n 0, 1) := by decide +kernel
theorem dX9_makesTask_41 : decode cX9_makesTask 41 = .ok (.dup, 1) := by decide +kernel
theorem dX9_makesTask_42 : decode cX9_makesTask 42 = .ok (.getfield 100, 3) := by decide +kernel
theorem dX9_makesTask_45 : decode cX9_makesTask 45 = .ok (.iconst 1, 1) := by decide +kernel
theorem dX9_makesTask_46 : decode cX9_makesTask 46 = .ok (.iadd, 1) := by decide +kernel
theorem dX9_makesTask_47 : decode cX9_makesTask 47 = .ok (.putfield 100, 3) := by decide +kernel
theorem dX9_makesTask_50 : decode cX9_makesTask 50 = .ok (.aload_n 0, 1) := by decide +kernel
theorem dX9_makesTask_51 : decode cX9_makesTask 51 = .ok (.getfield 100, 3) := by decide +kernel
theorem dX9_makesTask_54 : decode cX9_makesTask 54 = .ok (.iconst 1, 1) := by decide +kernel
theorem dX9_makesTask_55 : decode cX9_makesTask 55 = .ok (.isub, 1) := by decide +kernel
theorem dX9_makesTask_56 : decode cX9_makesTask 56 = .ok (.ireturn, 1) := by decide +kernel
theorem dX9_steps_0 : decode cX9_steps 0 = .ok (.aload_n 0, 1) := by decide +kernel
theorem dX9_steps_1 : decode cX9_steps 1 = .ok (.getfield 137, 3) := by decide +kernel
theorem dX9_steps_4 : decode cX9_steps 4 = .ok (.bipush 60, 2) := by decide +kernel
theorem dX9_steps_6 : decode cX9_steps 6 = .ok (.if_icmp .ne 10, 3) := by decide +kernel
theorem dX9_steps_9 : decode cX9_steps 9 = .ok (.aload_n 0, 1) := by decide +kernel
theorem dX9_steps_10 : decode cX9_steps 10 = .ok (.iconst 2, 1) := by decide +kernel
theorem dX9_steps_11 : decode cX9_steps 11 = .ok (.putfield 131, 3) := by decide +kernel
theorem dX9_steps_14 : decode cX9_steps 14 = .ok (.iconst 1, 1) := by decide +kernel
theorem dX9_steps_15 : decode cX9_steps 15 = .ok (.ireturn, 1) := by decide +kernel
theorem dX9_steps_16 : decode cX9_steps 16 = .ok (.bipush 20, 2) := by decide +kernel
theorem dX9_steps_18 : decode cX9_steps 18 = .ok (.aload_n 0, 1) := by decide +kernel
theorem dX9_steps_19 : decode cX9_steps 19 = .ok (.getfield 23, 3) := by decide +kernel
theorem dX9_steps_22 : decode cX9_steps 22 = .ok (.iload_n 1, 1) := by decide +kernel
theorem dX9_steps_23 : decode cX9_steps 23 = .ok (.iaload, 1) := by decide +kernel
theorem dX9_steps_24 : decode cX9_steps 24 = .ok (.imul, 1) := by decide +kernel
theorem dX9_steps_25 : decode cX9_steps 25 = .ok (.aload_n 0, 1) := by decide +kernel
theorem dX9_steps_26 : decode cX9_steps 26 = .ok (.getfield 110, 3) := by decide +kernel
theorem dX9_steps_29 : decode cX9_steps 29 = .ok (.iadd, 1) := by decide +kernel
theorem dX9_steps_30 : decode cX9_steps 30 = .ok (.istore 4, 2) := by decide +kernel
theorem dX9_steps_32 : decode cX9_steps 32 = .ok (.aload_n 0, 1) := by decide +kernel
theorem dX9_steps_33 : decode cX9_steps 33 = .ok (.getfield 13, 3) := by decide +kernel
theorem dX9_steps_36 : decode cX9_steps 36 = .ok (.iload 4, 2) := by decide +kernel
theorem dX9_steps_38 : decode cX9_steps 38 = .ok (.iaload, 1) := by decide +kernel
theorem dX9_steps_39 : decode cX9_steps 39 = .ok (.istore 5, 2) := by decide +kernel
theorem dX9_steps_41 : decode cX9_steps 41 = .ok (.aload_n 0, 1) := by decide +kernel
theorem dX9_steps_42 : decode cX9_steps 42 = .ok (.getfield 17, 3) := by decide +kernel
theorem dX9_steps_45 : decode cX9_steps 45 = .ok (.iload 4, 2) := by decide +kernel
theorem dX9_steps_47 : decode cX9_steps 47 = .ok (.iaload, 1) := by decide +kernel
theorem dX9_steps_48 : decode cX9_steps 48 = .ok (.istore 6, 2) := by decide +kernel
theorem dX9_steps_50 : decode cX9_steps 50 = .ok (.aload_n 0, 1) := by decide +kernel
theorem dX9_steps_51 : decode cX9_steps 51 = .ok (.getfield 107, 3) := by decide +kernel
theorem dX9_steps_54 : decode cX9_steps 54 = .ok (.iload_n 2, 1) := by decide +kernel
theorem dX9_steps_55 : decode cX9_steps 55 = .ok (.if_icmp .lt 7, 3) := by decide +kernel
theorem dX9_steps_58 : decode cX9_steps 58 = .ok (.iconst 1, 1) := by decide +kernel
theorem dX9_steps_59 : decode cX9_steps 59 = .ok (.goto 4, 3) := by decide +kernel
theorem dX9_steps_62 : decode cX9_steps 62 = .ok (.iconst 0, 1) := by decide +kernel
theorem dX9_steps_63 : decode cX9_steps 63 = .ok (.istore 7, 2) := by decide +kernel
theorem dX9_steps_65 : decode cX9_steps 65 = .ok (.aload_n 0, 1) := by decide +kernel
theorem dX9_steps_66 : decode cX9_steps 66 = .ok (.getfield 110, 3) := by decide +kernel
theorem dX9_steps_69 : decode cX9_steps 69 = .ok (.istore 8, 2) := by decide +kernel
theorem dX9_steps_71 : decode cX9_steps 71 = .ok (.aload_n 0, 1) := by decide +kernel
theorem dX9_steps_72 : decode cX9_steps 72 = .ok (.dup, 1) := by decide +kernel
theorem dX9_steps_73 : decode cX9_steps 73 = .ok (.getfield 137, 3) := by decide +kernel
theorem dX9_steps_76 : decode cX9_steps 76 = .ok (.iconst 1, 1) := by decide +kernel
theorem dX9_steps_77 : decode cX9_steps 77 = .ok (.iadd, 1) := by decide +kernel
theorem dX9_steps_78 : decode cX9_steps 78 = .ok (.putfield 137, 3) := by decide +kernel
theorem dX9_steps_81 : decode cX9_steps 81 = .ok (.aload_n 0, 1) := by decide +kernel
theorem dX9_steps_82 : decode cX9_steps 82 = .ok (.aload_n 0, 1) := by decide +kernel
theorem dX9_steps_83 : decode cX9_steps 83 = .ok (.getfield 110, 3) := by decide +kernel
theorem dX9_steps_86 : decode cX9_steps 86 = .ok (.iconst 1, 1) := by decide +kernel
theorem dX9_steps_87 : decode cX9_steps 87 = .ok (.iadd, 1) := by decide +kernel
theorem dX9_steps_88 : decode cX9_steps 88 = .ok (.bipush 20, 2) := by decide +kernel
theorem dX9_steps_90 : decode cX9_steps 90 = .ok (.irem, 1) := by decide +kernel
theorem dX9_steps_91 : decode cX9_steps 91 = .ok (.putfield 110, 3) := by decide +kernel
theorem dX9_steps_94 : decode cX9_steps 94 = .ok (.iload 5, 2) := by decide +kernel
theorem dX9_steps_96 : decode cX9_steps 96 = .ok (.iconst 3, 1) := by decide +kernel
theorem dX9_steps_97 : decode cX9_steps 97 = .ok (.if_icmp .eq 9, 3) := by decide +kernel
theorem dX9_steps_100 : decode cX9_steps 100 = .ok (.iload 5, 2) := by decide +kernel
theorem dX9_steps_102 : decode cX9_steps 102 = .ok (.iconst 4, 1) := by decide +kernel
theorem dX9_steps_103 : decode cX9_steps 103 = .ok (.if_icmp .ne 12, 3) := by decide +kernel
theorem dX9_steps_106 : decode cX9_steps 106 = .ok (.aload_n 0, 1) := by decide +kernel
theorem dX9_steps_107 : decode cX9_steps 107 = .ok (.iload 6, 2) := by decide +kernel
theorem dX9_steps_109 : decode cX9_steps 109 = .ok (.invokevirtual 149, 3) := by decide +kernel
theorem dX9_steps_112 : decode cX9_steps 112 = .ok (.goto 4, 3) := by decide +kernel
theorem dX9_steps_115 : decode cX9_steps 115 = .ok (.iconst (-1), 1) := by decide +kernel
theorem dX9_steps_116 : decode cX9_steps 116 = .ok (.istore 9, 2) := by decide +kernel
theorem dX9_steps_118 : decode cX9_steps 118 = .ok (.iload 5, 2) := by decide +kernel
theorem dX9_steps_120 : decode cX9_steps 120 = .ok (.invokestatic 193, 3) := by decide +kernel
theorem dX9_steps_123 : decode cX9_steps 123 = .ok (.ifCond .eq 18, 3) := by decide +kernel
theorem dX9_steps_126 : decode cX9_steps 126 = .ok (.iload 9, 2) := by decide +kernel
theorem dX9_steps_128 : decode cX9_steps 128 = .ok (.iconst (-1), 1) := by decide +kernel
theorem dX9_steps_129 : decode cX9_steps 129 = .ok (.if_icmp .ne 12, 3) := by decide +kernel
theorem dX9_steps_132 : decode cX9_steps 132 = .ok (.aload_n 0, 1) := by decide +kernel
theorem dX9_steps_133 : decode cX9_steps 133 = .ok (.getfield 107, 3) := by decide +kernel
theorem dX9_steps_136 : decode cX9_steps 136 = .ok (.bipush 60, 2) := by decide +kernel
theorem dX9_steps_138 : decode cX9_steps 138 = .ok (.if_icmp .ge 19, 3) := by decide +kernel
theorem dX9_steps_141 : decode cX9_steps 141 = .ok (.iload 5, 2) := by decide +kernel
theorem dX9_steps_143 : decode cX9_steps 143 = .ok (.bipush 12, 2) := by decide +kernel
theorem dX9_steps_145 : decode cX9_steps 145 = .ok (.if_icmp .ne 19, 3) := by decide +kernel
theorem dX9_steps_148 : decode cX9_steps 148 = .ok (.aload_n 0, 1) := by decide +kernel
theorem dX9_steps_149 : decode cX9_steps 149 = .ok (.getfield 122, 3) := by decide +kernel
theorem dX9_steps_152 : decode cX9_steps 152 = .ok (.bipush 20, 2) := by decide +kernel
theorem dX9_steps_154 : decode cX9_steps 154 = .ok (.if_icmp .ne 10, 3) := by decide +kernel
theorem dX9_steps_157 : decode cX9_steps 157 = .ok (.aload_n 0, 1) := by decide +kernel
theorem dX9_steps_158 : decode cX9_steps 158 = .ok (.iconst 2, 1) := by decide +kernel
theorem dX9_steps_159 : decode cX9_steps 159 = .ok (.putfield 131, 3) := by decide +kernel
theorem dX9_steps_162 : decode cX9_steps 162 = .ok (.iconst 1, 1) := by decide +kernel
theorem dX9_steps_163 : decode cX9_steps 163 = .ok (.ireturn, 1) := by decide +kernel
theorem dX9_steps_164 : decode cX9_steps 164 = .ok (.iconst 1, 1) := by decide +kernel
theorem dX9_steps_165 : decode cX9_steps 165 = .ok (.istore 10, 2) := by decide +kernel
theorem dX9_steps_167 : decode cX9_steps 167 = .ok (.iload 5, 2) := by decide +kernel
theorem dX9_steps_169 : decode cX9_steps 169 = .ok (.tableswitch 842 0 16 #[83, 123, 169, 242, 289, 391, 417, 429, 443, 457, 548, 628, 642, 666, 674, 802, 810], 83) := by decide +kernel
theorem dX9_steps_252 : decode cX9_steps 252 = .ok (.aload_n 0, 1) := by decide +kernel
theorem dX9_steps_253 : decode cX9_steps 253 = .ok (.iload_n 1, 1) := by decide +kernel
theorem dX9_steps_254 : decode cX9_steps 254 = .ok (.iload_n 2, 1) := by decide +kernel
theorem dX9_steps_255 : decode cX9_steps 255 = .ok (.iload_n 3, 1) := by decide +kernel
theorem dX9_steps_256 : decode cX9_steps 256 = .ok (.bipush 13, 2) := by decide +kernel
theorem dX9_steps_258 : decode cX9_steps 258 = .ok (.ldc2_w 162, 3) := by decide +kernel
theorem dX9_steps_261 : decode cX9_steps 261 = .ok (.aload_n 0, 1) := by decide +kernel
theorem dX9_steps_262 : decode cX9_steps 262 = .ok (.getfield 113, 3) := by decide +kernel
theorem dX9_steps_265 : decode cX9_steps 265 = .ok (.i2l, 1) := by decide +kernel
theorem dX9_steps_266 : decode cX9_steps 266 = .ok (.lmul, 1) := by decide +kernel
theorem dX9_steps_267 : decode cX9_steps 267 = .ok (.lconst 1, 1) := by decide +kernel
theorem dX9_steps_268 : decode cX9_steps 268 = .ok (.ladd, 1) := by decide +kernel
theorem dX9_steps_269 : decode cX9_steps 269 = .ok (.iconst 0, 1) := by decide +kernel
theorem dX9_steps_270 : decode cX9_steps 270 = .ok (.invokevirtual 164, 3) := by decide +kernel
theorem dX9_steps_273 : decode cX9_steps 273 = .ok (.istore 10, 2) := by decide +kernel
theorem dX9_steps_275 : decode cX9_steps 275 = .ok (.aload_n 0, 1) := by decide +kernel
theorem dX9_steps_276 : decode cX9_steps 276 = .ok (.iload 10, 2) := by decide +kernel
theorem dX9_steps_278 : decode cX9_steps 278 = .ok (.ifCond .eq 7, 3) := by decide +kernel
theorem dX9_steps_281 : decode cX9_steps 281 = .ok (.iconst 1, 1) := by decide +kernel
theorem dX9_steps_282 : decode cX9_steps 282 = .ok (.goto 4, 3) := by decide +kernel
theorem dX9_steps_285 : decode cX9_steps 285 = .ok (.iconst 0, 1) := by decide +kernel
theorem dX9_steps_286 : decode cX9_steps 286 = .ok (.putfield 134, 3) := by decide +kernel
theorem dX9_steps_289 : decode cX9_steps 289 = .ok (.goto 796, 3) := by decide +kernel
theorem dX9_steps_292 : decode cX9_steps 292 = .ok (.aload_n 0, 1) := by decide +kernel
theorem dX9_steps_293 : decode cX9_steps 293 = .ok (.iload_n 1, 1) := by decide +kernel
theorem dX9_steps_294 : decode cX9_steps 294 = .ok (.iload_n 2, 1) := by decide +kernel
theorem dX9_steps_295 : decode cX9_steps 295 = .ok (.iload_n 3, 1) := by decide +kernel
theorem dX9_steps_296 : decode cX9_steps 296 = .ok (.iconst 1, 1) := by decide +kernel
theorem dX9_steps_297 : decode cX9_steps 297 = .ok (.iload 6, 2) := by decide +kernel
theorem dX9_steps_299 : decode cX9_steps 299 = .ok (.i2l, 1) := by decide +kernel
theorem dX9_steps_300 : decode cX9_steps 300 = .ok (.iconst 0, 1) := by decide +kernel
theorem dX9_steps_301 : decode cX9_steps 301 = .ok (.invokevirtual 164, 3) := by decide +kernel
theorem dX9_steps_304 : decode cX9_steps 304 = .ok (.istore 10, 2) := by decide +kernel
theorem dX9_steps_306 : decode cX9_steps 306 = .ok (.iload 10, 2) := by decide +kernel
theorem dX9_steps_308 : decode cX9_steps 308 = .ok (.ifCond .eq 777, 3) := by decide +kernel
theorem dX9_steps_311 : decode cX9_steps 311 = .ok (.aload_n 0, 1) := by decide +kernel
theorem dX9_steps_312 : decode cX9_steps 312 = .ok (.iconst 1, 1) := by decide +kernel
theorem dX9_steps_313 : decode cX9_steps 313 = .ok (.putfield 116, 3) := by decide +kernel
theorem dX9_steps_316 : decode cX9_steps 316 = .ok (.aload_n 0, 1) := by decide +kernel
theorem dX9_steps_317 : decode cX9_steps 317 = .ok (.iload 6, 2) := by decide +kernel
theorem dX9_steps_319 : decode cX9_steps 319 = .ok (.putfield 119, 3) := by decide +kernel
theorem dX9_steps_322 : decode cX9_steps 322 = .ok (.iload 7, 2) := by decide +kernel
theorem dX9_steps_324 : decode cX9_steps 324 = .ok (.ifCond .eq 761, 3) := by decide +kernel
theorem dX9_steps_327 : decode cX9_steps 327 = .ok (.aload_n 0, 1) := by decide +kernel
theorem dX9_steps_328 : decode cX9_steps 328 = .ok (.iload_n 1, 1) := by decide +kernel
theorem dX9_steps_329 : decode cX9_steps 329 = .ok (.iload 6, 2) := by decide +kernel
theorem dX9_steps_331 : decode cX9_steps 331 = .ok (.invokevirtual 189, 3) := by decide +kernel
theorem dX9_steps_334 : decode cX9_steps 334 = .ok (.pop, 1) := by decide +kernel
theorem dX9_steps_335 : decode cX9_steps 335 = .ok (.goto 750, 3) := by decide +kernel
theorem dX9_steps_338 : decode cX9_steps 338 = .ok (.aload_n 0, 1) := by decide +kernel
theorem dX9_steps_339 : decode cX9_steps 339 = .ok (.iload_n 1, 1) := by decide +kernel
theorem dX9_steps_340 : decode cX9_steps 340 = .ok (.iload_n 2, 1) := by decide +kernel
theorem dX9_steps_341 : decode cX9_steps 341 = .ok (.iload_n 3, 1) := by decide +kernel
theorem dX9_steps_342 : decode cX9_steps 342 = .ok (.iconst 4, 1) := by decide +kernel
theorem dX9_steps_343 : decode cX9_steps 343 = .ok (.aload_n 0, 1) := by decide +kernel
theorem dX9_steps_344 : decode cX9_steps 344 = .ok (.getfield 197, 3) := by decide +kernel
theorem dX9_steps_347 : decode cX9_steps 347 = .ok (.iload 6, 2) := by decide +kernel
theorem dX9_steps_349 : decode cX9_steps 349 = .ok (.iconst 1, 1) := by decide +kernel
theorem dX9_steps_350 : decode cX9_steps 350 = .ok (.if_icmp .ge 7, 3) := by decide +kernel
theorem dX9_steps_353 : decode cX9_steps 353 = .ok (.iconst 1, 1) := by decide +kernel
theorem dX9_steps_354 : decode cX9_steps 354 = .ok (.goto 5, 3) := by decide +kernel
theorem dX9_steps_357 : decode cX9_steps 357 = .ok (.iload 6, 2) := by decide +kernel
theorem dX9_steps_359 : decode cX9_steps 359 = .ok (.iadd, 1) := by decide +kernel
theorem dX9_steps_360 : decode cX9_steps 360 = .ok (.i2l, 1) := by decide +kernel
theorem dX9_steps_361 : decode cX9_steps 361 = .ok (.iconst 1, 1) := by decide +kernel
theorem dX9_steps_362 : decode cX9_steps 362 = .ok (.invokevirtual 164, 3) := by decide +kernel
theorem dX9_steps_365 : decode cX9_steps 365 = .ok (.istore 10, 2) := by decide +kernel
theorem dX9_steps_367 : decode cX9_steps 367 = .ok (.aload_n 0, 1) := by decide +kernel
theorem dX9_steps_368 : decode cX9_steps 368 = .ok (.iload 10, 2) := by decide +kernel
theorem dX9_steps_370 : decode cX9_steps 370 = .ok (.ifCond .eq 7, 3) := by decide +kernel
theorem dX9_steps_373 : decode cX9_steps 373 = .ok (.iconst 2, 1) := by decide +kernel
theorem dX9_steps_374 : decode cX9_steps 374 = .ok (.goto 4, 3) := by decide +kernel
theorem dX9_steps_377 : decode cX9_steps 377 = .ok (.iconst 0, 1) := by decide +kernel
theorem dX9_steps_378 : decode cX9_steps 378 = .ok (.putfield 116, 3) := by decide +kernel
theorem dX9_steps_381 : decode cX9_steps 381 = .ok (.aload_n 0, 1) := by decide +kernel
theorem dX9_steps_382 : decode cX9_steps 382 = .ok (.iload 10, 2) := by decide +kernel
theorem dX9_steps_384 : decode cX9_steps 384 = .ok (.ifCond .eq 12, 3) := by decide +kernel
theorem dX9_steps_387 : decode cX9_steps 387 = .ok (.aload_n 0, 1) := by decide +kernel
theorem dX9_steps_388 : decode cX9_steps 388 = .ok (.iload_n 1, 1) := by decide +kernel
theorem dX9_steps_389 : decode cX9_steps 389 = .ok (.invokevirtual 200, 3) := by decide +kernel
theorem dX9_steps_392 : decode cX9_steps 392 = .ok (.l2i, 1) := by decide +kernel
theorem dX9_steps_393 : decode cX9_steps 393 = .ok (.goto 4, 3) := by decide +kernel
theorem dX9_steps_396 : decode cX9_steps 396 = .ok (.iconst 0, 1) := by decide +kernel
theorem dX9_steps_397 : decode cX9_steps 397 = .ok (.putfield 119, 3) := by decide +kernel
theorem dX9_steps_400 : decode cX9_steps 400 = .ok (.aload_n 0, 1) := by decide +kernel
theorem dX9_steps_401 : decode cX9_steps 401 = .ok (.aload_n 0, 1) := by decide +kernel
theorem dX9_steps_402 : decode cX9_steps 402 = .ok (.getfield 119, 3) := by decide +kernel
theorem dX9_steps_405 : decode cX9_steps 405 = .ok (.putfield 204, 3) := by decide +kernel
theorem dX9_steps_408 : decode cX9_steps 408 = .ok (.goto 677, 3) := by decide +kernel
theorem dX9_steps_411 : decode cX9_steps 411 = .ok (.aload_n 0, 1) := by decide +kernel
theorem dX9_steps_412 : decode cX9_steps 412 = .ok (.iload 9, 2) := by decide +kernel
theorem dX9_steps_414 : decode cX9_steps 414 = .ok (.iconst (-1), 1) := by decide +kernel
theorem dX9_steps_415 : decode cX9_steps 415 = .ok (.if_icmp .ne 10, 3) := by decide +kernel
theorem dX9_steps_418 : decode cX9_steps 418 = .ok (.aload_n 0, 1) := by decide +kernel
theorem dX9_steps_419 : decode cX9_steps 419 = .ok (.getfield 113, 3) := by decide +kernel
theorem dX9_steps_422 : decode cX9_steps 422 = .ok (.goto 9, 3) := by decide +kernel
theorem dX9_steps_425 : decode cX9_steps 425 = .ok (.aload_n 0, 1) := by decide +kernel
theorem dX9_steps_426 : decode cX9_steps 426 = .ok (.iload 9, 2) := by decide +kernel
theorem dX9_steps_428 : decode cX9_steps 428 = .ok (.invokevirtual 153, 3) := by decide +kernel
theorem dX9_steps_431 : decode cX9_steps 431 = .ok (.putfield 113, 3) := by decide +kernel
theorem dX9_steps_434 : decode cX9_steps 434 = .ok (.aload_n 0, 1) := by decide +kernel
theorem dX9_steps_435 : decode cX9_steps 435 = .ok (.iload 9, 2) := by decide +kernel
theorem dX9_steps_437 : decode cX9_steps 437 = .ok (.iconst (-1), 1) := by decide +kernel
theorem dX9_steps_438 : decode cX9_steps 438 = .ok (.if_icmp .ne 7, 3) := by decide +kernel
theorem dX9_steps_441 : decode cX9_steps 441 = .ok (.iconst 3, 1) := by decide +kernel
theorem dX9_steps_442 : decode cX9_steps 442 = .ok (.goto 4, 3) := by decide +kernel
theorem dX9_steps_445 : decode cX9_steps 445 = .ok (.iconst 0, 1) := by decide +kernel
theorem dX9_steps_446 : decode cX9_steps 446 = .ok (.putfield 116, 3) := by decide +kernel
theorem dX9_steps_449 : decode cX9_steps 449 = .ok (.aload_n 0, 1) := by decide +kernel
theorem dX9_steps_450 : decode cX9_steps 450 = .ok (.iload 6, 2) := by decide +kernel
theorem dX9_steps_452 : decode cX9_steps 452 = .ok (.putfield 119, 3) := by decide +kernel
theorem dX9_steps_455 : decode cX9_steps 455 = .ok (.goto 630, 3) := by decide +kernel
theorem dX9_steps_458 : decode cX9_steps 458 = .ok (.iload 9, 2) := by decide +kernel
theorem dX9_steps_460 : decode cX9_steps 460 = .ok (.iconst (-1), 1) := by decide +kernel
theorem dX9_steps_461 : decode cX9_steps 461 = .ok (.if_icmp .eq 18, 3) := by decide +kernel
theorem dX9_steps_464 : decode cX9_steps 464 = .ok (.aload_n 0, 1) := by decide +kernel
theorem dX9_steps_465 : decode cX9_steps 465 = .ok (.iload 9, 2) := by decide +kernel
theorem dX9_steps_467 : decode cX9_steps 467 = .ok (.invokevirtual 153, 3) := by decide +kernel
theorem dX9_steps_470 : decode cX9_steps 470 = .ok (.pop, 1) := by decide +kernel
theorem dX9_steps_471 : decode cX9_steps 471 = .ok (.aload_n 0, 1) := by decide +kernel
theorem dX9_steps_472 : decode cX9_steps 472 = .ok (.iconst 1, 1) := by decide +kernel
theorem dX9_steps_473 : decode cX9_steps 473 = .ok (.putfield 113, 3) := by decide +kernel
theorem dX9_steps_476 : decode cX9_steps 476 = .ok (.goto 609, 3) := by decide +kernel
theorem dX9_steps_479 : decode cX9_steps 479 = .ok (.aload_n 0, 1) := by decide +kernel
theorem dX9_steps_480 : decode cX9_steps 480 = .ok (.iload_n 1, 1) := by decide +kernel
theorem dX9_steps_481 : decode cX9_steps 481 = .ok (.iload_n 2, 1) := by decide +kernel
theorem dX9_steps_482 : decode cX9_steps 482 = .ok (.iload_n 3, 1) := by decide +kernel
theorem dX9_steps_483 : decode cX9_steps 483 = .ok (.iconst 4, 1) := by decide +kernel
theorem dX9_steps_484 : decode cX9_steps 484 = .ok (.aload_n 0, 1) := by decide +kernel
theorem dX9_steps_485 : decode cX9_steps 485 = .ok (.getfield 197, 3) := by decide +kernel
theorem dX9_steps_488 : decode cX9_steps 488 = .ok (.aload_n 0, 1) := by decide +kernel
theorem dX9_steps_489 : decode cX9_steps 489 = .ok (.getfield 20, 3) := by decide +kernel
theorem dX9_steps_492 : decode cX9_steps 492 = .ok (.iload 4, 2) := by decide +kernel
theorem dX9_steps_494 : decode cX9_steps 494 = .ok (.iaload, 1) := by decide +kernel
theorem dX9_steps_495 : decode cX9_steps 495 = .ok (.iconst 1, 1) := by decide +kernel
theorem dX9_steps_496 : decode cX9_steps 496 = .ok (.if_icmp .ge 7, 3) := by decide +kernel
theorem dX9_steps_499 : decode cX9_steps 499 = .ok (.iconst 1, 1) := by decide +kernel
theorem dX9_steps_500 : decode cX9_steps 500 = .ok (.goto 10, 3) := by decide +kernel
theorem dX9_steps_503 : decode cX9_steps 503 = .ok (.aload_n 0, 1) := by decide +kernel
theorem dX9_steps_504 : decode cX9_steps 504 = .ok (.getfield 20, 3) := by decide +kernel
theorem dX9_steps_507 : decode cX9_steps 507 = .ok (.iload 4, 2) := by decide +kernel
theorem dX9_steps_509 : decode cX9_steps 509 = .ok (.iaload, 1) := by decide +kernel
theorem dX9_steps_510 : decode cX9_steps 510 = .ok (.iadd, 1) := by decide +kernel
theorem dX9_steps_511 : decode cX9_steps 511 = .ok (.i2l, 1) := by decide +kernel
theorem dX9_steps_512 : decode cX9_steps 512 = .ok (.iconst 1, 1) := by decide +kernel
theorem dX9_steps_513 : decode cX9_steps 513 = .ok (.invokevirtual 164, 3) := by decide +kernel
theorem dX9_steps_516 : decode cX9_steps 516 = .ok (.istore 10, 2) := by decide +kernel
theorem dX9_steps_518 : decode cX9_steps 518 = .ok (.aload_n 0, 1) := by decide +kernel
theorem dX9_steps_519 : decode cX9_steps 519 = .ok (.iload 10, 2) := by decide +kernel
theorem dX9_steps_521 : decode cX9_steps 521 = .ok (.ifCond .eq 7, 3) := by decide +kernel
theorem dX9_steps_524 : decode cX9_steps 524 = .ok (.iconst 4, 1) := by decide +kernel
theorem dX9_steps_525 : decode cX9_steps 525 = .ok (.goto 4, 3) := by decide +kernel
theorem dX9_steps_528 : decode cX9_steps 528 = .ok (.iconst 0, 1) := by decide +kernel
theorem dX9_steps_529 : decode cX9_steps 529 = .ok (.putfield 116, 3) := by decide +kernel
theorem dX9_steps_532 : decode cX9_steps 532 = .ok (.aload_n 0, 1) := by decide +kernel
theorem dX9_steps_533 : decode cX9_steps 533 = .ok (.iload 10, 2) := by decide +kernel
theorem dX9_steps_535 : decode cX9_steps 535 = .ok (.ifCond .eq 12, 3) := by decide +kernel
theorem dX9_steps_538 : decode cX9_steps 538 = .ok (.aload_n 0, 1) := by decide +kernel
theorem dX9_steps_539 : decode cX9_steps 539 = .ok (.iload_n 1, 1) := by decide +kernel
theorem dX9_steps_540 : decode cX9_steps 540 = .ok (.invokevirtual 200, 3) := by decide +kernel
theorem dX9_steps_543 : decode cX9_steps 543 = .ok (.l2i, 1) := by decide +kernel
theorem dX9_steps_544 : decode cX9_steps 544 = .ok (.goto 4, 3) := by decide +kernel
theorem dX9_steps_547 : decode cX9_steps 547 = .ok (.iconst 0, 1) := by decide +kernel
theorem dX9_steps_548 : decode cX9_steps 548 = .ok (.putfield 204, 3) := by decide +kernel
theorem dX9_steps_551 : decode cX9_steps 551 = .ok (.aload_n 0, 1) := by decide +kernel
theorem dX9_steps_552 : decode cX9_steps 552 = .ok (.iload 6, 2) := by decide +kernel
theorem dX9_steps_554 : decode cX9_steps 554 = .ok (.putfield 119, 3) := by decide +kernel
theorem dX9_steps_557 : decode cX9_steps 557 = .ok (.goto 528, 3) := by decide +kernel
theorem dX9_steps_560 : decode cX9_steps 560 = .ok (.aload_n 0, 1) := by decide +kernel
theorem dX9_steps_561 : decode cX9_steps 561 = .ok (.aload_n 0, 1) := by decide +kernel
theorem dX9_steps_562 : decode cX9_steps 562 = .ok (.getfield 113, 3) := by decide +kernel
theorem dX9_steps_565 : decode cX9_steps 565 = .ok (.ifCond .ne 11, 3) := by decide +kernel
theorem dX9_steps_568 : decode cX9_steps 568 = .ok (.iload 6, 2) := by decide +kernel
theorem dX9_steps_570 : decode cX9_steps 570 = .ok (.bipush 20, 2) := by decide +kernel
theorem dX9_steps_572 : decode cX9_steps 572 = .ok (.irem, 1) := by decide +kernel
theorem dX9_steps_573 : decode cX9_steps 573 = .ok (.goto 7, 3) := by decide +kernel
theorem dX9_steps_576 : decode cX9_steps 576 = .ok (.aload_n 0, 1) := by decide +kernel
theorem dX9_steps_577 : decode cX9_steps 577 = .ok (.getfield 110, 3) := by decide +kernel
theorem dX9_steps_580 : decode cX9_steps 580 = .ok (.putfield 110, 3) := by decide +kernel
theorem dX9_steps_583 : decode cX9_steps 583 = .ok (.goto 502, 3) := by decide +kernel
theorem dX9_steps_586 : decode cX9_steps 586 = .ok (.aload_n 0, 1) := by decide +kernel
theorem dX9_steps_587 : decode cX9_steps 587 = .ok (.iload 6, 2) := by decide +kernel
theorem dX9_steps_589 : decode cX9_steps 589 = .ok (.bipush 20, 2) := by decide +kernel
theorem dX9_steps_591 : decode cX9_steps 591 = .ok (.irem, 1) := by decide +kernel
theorem dX9_steps_592 : decode cX9_steps 592 = .ok (.putfield 110, 3) := by decide +kernel
theorem dX9_steps_595 : decode cX9_steps 595 = .ok (.goto 490, 3) := by decide +kernel
theorem dX9_steps_598 : decode cX9_steps 598 = .ok (.aload_n 0, 1) := by decide +kernel
theorem dX9_steps_599 : decode cX9_steps 599 = .ok (.dup, 1) := by decide +kernel
theorem dX9_steps_600 : decode cX9_steps 600 = .ok (.getfield 113, 3) := by decide +kernel
theorem dX9_steps_603 : decode cX9_steps 603 = .ok (.iload 6, 2) := by decide +kernel
theorem dX9_steps_605 : decode cX9_steps 605 = .ok (.iadd, 1) := by decide +kernel
theorem dX9_steps_606 : decode cX9_steps 606 = .ok (.putfield 113, 3) := by decide +kernel
theorem dX9_steps_609 : decode cX9_steps 609 = .ok (.goto 476, 3) := by decide +kernel
theorem dX9_steps_612 : decode cX9_steps 612 = .ok (.aload_n 0, 1) := by decide +kernel
theorem dX9_steps_613 : decode cX9_steps 613 = .ok (.dup, 1) := by decide +kernel
theorem dX9_steps_614 : decode cX9_steps 614 = .ok (.getfield 113, 3) := by decide +kernel
theorem dX9_steps_617 : decode cX9_steps 617 = .ok (.iload 6, 2) := by decide +kernel
theorem dX9_steps_619 : decode cX9_steps 619 = .ok (.isub, 1) := by decide +kernel
theorem dX9_steps_620 : decode cX9_steps 620 = .ok (.putfield 113, 3) := by decide +kernel
theorem dX9_steps_623 : decode cX9_steps 623 = .ok (.goto 462, 3) := by decide +kernel
theorem dX9_steps_626 : decode cX9_steps 626 = .ok (.aload_n 0, 1) := by decide +kernel
theorem dX9_steps_627 : decode cX9_steps 627 = .ok (.iload_n 1, 1) := by decide +kernel
theorem dX9_steps_628 : decode cX9_steps 628 = .ok (.iload_n 2, 1) := by decide +kernel
theorem dX9_steps_629 : decode cX9_steps 629 = .ok (.iload_n 3, 1) := by decide +kernel
theorem dX9_steps_630 : decode cX9_steps 630 = .ok (.bipush 7, 2) := by decide +kernel
theorem dX9_steps_632 : decode cX9_steps 632 = .ok (.iload 6, 2) := by decide +kernel
theorem dX9_steps_634 : decode cX9_steps 634 = .ok (.bipush 6, 2) := by decide +kernel
theorem dX9_steps_636 : decode cX9_steps 636 = .ok (.irem, 1) := by decide +kernel
theorem dX9_steps_637 : decode cX9_steps 637 = .ok (.iload_n 1, 1) := by decide +kernel
theorem dX9_steps_638 : decode cX9_steps 638 = .ok (.iconst (-1), 1) := by decide +kernel
theorem dX9_steps_639 : decode cX9_steps 639 = .ok (.invokevirtual 207, 3) := by decide +kernel
theorem dX9_steps_642 : decode cX9_steps 642 = .ok (.istore 10, 2) := by decide +kernel
theorem dX9_steps_644 : decode cX9_steps 644 = .ok (.aload_n 0, 1) := by decide +kernel
theorem dX9_steps_645 : decode cX9_steps 645 = .ok (.iload 10, 2) := by decide +kernel
theorem dX9_steps_647 : decode cX9_steps 647 = .ok (.ifCond .eq 17, 3) := by decide +kernel
theorem dX9_steps_650 : decode cX9_steps 650 = .ok (.aload_n 0, 1) := by decide +kernel
theorem dX9_steps_651 : decode cX9_steps 651 = .ok (.iload_n 1, 1) := by decide +kernel
theorem dX9_steps_652 : decode cX9_steps 652 = .ok (.invokevirtual 200, 3) := by decide +kernel
theorem dX9_steps_655 : decode cX9_steps 655 = .ok (.lconst 0, 1) := by decide +kernel
theorem dX9_steps_656 : decode cX9_steps 656 = .ok (.lcmp, 1) := by decide +kernel
theorem dX9_steps_657 : decode cX9_steps 657 = .ok (.ifCond .lt 7, 3) := by decide +kernel
theorem dX9_steps_660 : decode cX9_steps 660 = .ok (.iconst 5, 1) := by decide +kernel
theorem dX9_steps_661 : decode cX9_steps 661 = .ok (.goto 4, 3) := by decide +kernel
theorem dX9_steps_664 : decode cX9_steps 664 = .ok (.iconst 0, 1) := by decide +kernel
theorem dX9_steps_665 : decode cX9_steps 665 = .ok (.putfield 116, 3) := by decide +kernel
theorem dX9_steps_668 : decode cX9_steps 668 = .ok (.aload_n 0, 1) := by decide +kernel
theorem dX9_steps_669 : decode cX9_steps 669 = .ok (.iload 10, 2) := by decide +kernel
theorem dX9_steps_671 : decode cX9_steps 671 = .ok (.ifCond .eq 17, 3) := by decide +kernel
theorem dX9_steps_674 : decode cX9_steps 674 = .ok (.aload_n 0, 1) := by decide +kernel
theorem dX9_steps_675 : decode cX9_steps 675 = .ok (.iload_n 1, 1) := by decide +kernel
theorem dX9_steps_676 : decode cX9_steps 676 = .ok (.invokevirtual 200, 3) := by decide +kernel
theorem dX9_steps_679 : decode cX9_steps 679 = .ok (.lconst 0, 1) := by decide +kernel
theorem dX9_steps_680 : decode cX9_steps 680 = .ok (.lcmp, 1) := by decide +kernel
theorem dX9_steps_681 : decode cX9_steps 681 = .ok (.ifCond .ge 7, 3) := by decide +kernel
theorem dX9_steps_684 : decode cX9_steps 684 = .ok (.iconst 2, 1) := by decide +kernel
theorem dX9_steps_685 : decode cX9_steps 685 = .ok (.goto 7, 3) := by decide +kernel
theorem dX9_steps_688 : decode cX9_steps 688 = .ok (.aload_n 0, 1) := by decide +kernel
theorem dX9_steps_689 : decode cX9_steps 689 = .ok (.getfield 131, 3) := by decide +kernel
theorem dX9_steps_692 : decode cX9_steps 692 = .ok (.putfield 131, 3) := by decide +kernel
theorem dX9_steps_695 : decode cX9_steps 695 = .ok (.aload_n 0, 1) := by decide +kernel
theorem dX9_steps_696 : decode cX9_steps 696 = .ok (.iload 10, 2) := by decide +kernel
theorem dX9_steps_698 : decode cX9_steps 698 = .ok (.ifCond .eq 12, 3) := by decide +kernel
theorem dX9_steps_701 : decode cX9_steps 701 = .ok (.aload_n 0, 1) := by decide +kernel
theorem dX9_steps_702 : decode cX9_steps 702 = .ok (.iload_n 1, 1) := by decide +kernel
theorem dX9_steps_703 : decode cX9_steps 703 = .ok (.invokevirtual 200, 3) := by decide +kernel
theorem dX9_steps_706 : decode cX9_steps 706 = .ok (.l2i, 1) := by decide +kernel
theorem dX9_steps_707 : decode cX9_steps 707 = .ok (.goto 4, 3) := by decide +kernel
theorem dX9_steps_710 : decode cX9_steps 710 = .ok (.iconst 0, 1) := by decide +kernel
theorem dX9_steps_711 : decode cX9_steps 711 = .ok (.putfield 119, 3) := by decide +kernel
theorem dX9_steps_714 : decode cX9_steps 714 = .ok (.goto 371, 3) := by decide +kernel
theorem dX9_steps_717 : decode cX9_steps 717 = .ok (.aload_n 0, 1) := by decide +kernel
theorem dX9_steps_718 : decode cX9_steps 718 = .ok (.iload_n 1, 1) := by decide +kernel
theorem dX9_steps_719 : decode cX9_steps 719 = .ok (.iload_n 2, 1) := by decide +kernel
theorem dX9_steps_720 : decode cX9_steps 720 = .ok (.iload_n 3, 1) := by decide +kernel
theorem dX9_steps_721 : decode cX9_steps 721 = .ok (.bipush 14, 2) := by decide +kernel
theorem dX9_steps_723 : decode cX9_steps 723 = .ok (.iload 6, 2) := by decide +kernel
theorem dX9_steps_725 : decode cX9_steps 725 = .ok (.bipush 6, 2) := by decide +kernel
theorem dX9_steps_727 : decode cX9_steps 727 = .ok (.irem, 1) := by decide +kernel
theorem dX9_steps_728 : decode cX9_steps 728 = .ok (.iconst (-1), 1) := by decide +kernel
theorem dX9_steps_729 : decode cX9_steps 729 = .ok (.iconst (-1), 1) := by decide +kernel
theorem dX9_steps_730 : decode cX9_steps 730 = .ok (.invokevirtual 207, 3) := by decide +kernel
theorem dX9_steps_733 : decode cX9_steps 733 = .ok (.istore 10, 2) := by decide +kernel
theorem dX9_steps_735 : decode cX9_steps 735 = .ok (.aload_n 0, 1) := by decide +kernel
theorem dX9_steps_736 : decode cX9_steps 736 = .ok (.iload 10, 2) := by decide +kernel
theorem dX9_steps_738 : decode cX9_steps 738 = .ok (.ifCond .eq 17, 3) := by decide +kernel
theorem dX9_steps_741 : decode cX9_steps 741 = .ok (.aload_n 0, 1) := by decide +kernel
theorem dX9_steps_742 : decode cX9_steps 742 = .ok (.iload_n 1, 1) := by decide +kernel
theorem dX9_steps_743 : decode cX9_steps 743 = .ok (.invokevirtual 200, 3) := by decide +kernel
theorem dX9_steps_746 : decode cX9_steps 746 = .ok (.lconst 0, 1) := by decide +kernel
theorem dX9_steps_747 : decode cX9_steps 747 = .ok (.lcmp, 1) := by decide +kernel
theorem dX9_steps_748 : decode cX9_steps 748 = .ok (.ifCond .ge 7, 3) := by decide +kernel
theorem dX9_steps_751 : decode cX9_steps 751 = .ok (.iconst 2, 1) := by decide +kernel
theorem dX9_steps_752 : decode cX9_steps 752 = .ok (.goto 7, 3) := by decide +kernel
theorem dX9_steps_755 : decode cX9_steps 755 = .ok (.aload_n 0, 1) := by decide +kernel
theorem dX9_steps_756 : decode cX9_steps 756 = .ok (.getfield 131, 3) := by decide +kernel
theorem dX9_steps_759 : decode cX9_steps 759 = .ok (.putfield 131, 3) := by decide +kernel
theorem dX9_steps_762 : decode cX9_steps 762 = .ok (.aload_n 0, 1) := by decide +kernel
theorem dX9_steps_763 : decode cX9_steps 763 = .ok (.iload 10, 2) := by decide +kernel
theorem dX9_steps_765 : decode cX9_steps 765 = .ok (.ifCond .eq 22, 3) := by decide +kernel
theorem dX9_steps_768 : decode cX9_steps 768 = .ok (.aload_n 0, 1) := by decide +kernel
theorem dX9_steps_769 : decode cX9_steps 769 = .ok (.iload_n 1, 1) := by decide +kernel
theorem dX9_steps_770 : decode cX9_steps 770 = .ok (.invokevirtual 200, 3) := by decide +kernel
theorem dX9_steps_773 : decode cX9_steps 773 = .ok (.lconst 0, 1) := by decide +kernel
theorem dX9_steps_774 : decode cX9_steps 774 = .ok (.lcmp, 1) := by decide +kernel
theorem dX9_steps_775 : decode cX9_steps 775 = .ok (.ifCond .lt 12, 3) := by decide +kernel
theorem dX9_steps_778 : decode cX9_steps 778 = .ok (.aload_n 0, 1) := by decide +kernel
theorem dX9_steps_779 : decode cX9_steps 779 = .ok (.iload_n 1, 1) := by decide +kernel
theorem dX9_steps_780 : decode cX9_steps 780 = .ok (.invokevirtual 200, 3) := by decide +kernel
theorem dX9_steps_783 : decode cX9_steps 783 = .ok (.l2i, 1) := by decide +kernel
theorem dX9_steps_784 : decode cX9_steps 784 = .ok (.goto 7, 3) := by decide +kernel
theorem dX9_steps_787 : decode cX9_steps 787 = .ok (.aload_n 0, 1) := by decide +kernel
theorem dX9_steps_788 : decode cX9_steps 788 = .ok (.getfield 113, 3) := by decide +kernel
theorem dX9_steps_791 : decode cX9_steps 791 = .ok (.putfield 113, 3) := by decide +kernel
theorem dX9_steps_794 : decode cX9_steps 794 = .ok (.goto 291, 3) := by decide +kernel
theorem dX9_steps_797 : decode cX9_steps 797 = .ok (.aload_n 0, 1) := by decide +kernel
theorem dX9_steps_798 : decode cX9_steps 798 = .ok (.iload_n 1, 1) := by decide +kernel
theorem dX9_steps_799 : decode cX9_steps 799 = .ok (.iload_n 2, 1) := by decide +kernel
theorem dX9_steps_800 : decode cX9_steps 800 = .ok (.iload_n 3, 1) := by decide +kernel
theorem dX9_steps_801 : decode cX9_steps 801 = .ok (.iload 6, 2) := by decide +kernel
theorem dX9_steps_803 : decode cX9_steps 803 = .ok (.invokevirtual 211, 3) := by decide +kernel
theorem dX9_steps_806 : decode cX9_steps 806 = .ok (.istore 10, 2) := by decide +kernel
theorem dX9_steps_808 : decode cX9_steps 808 = .ok (.goto 277, 3) := by decide +kernel
theorem dX9_steps_811 : decode cX9_steps 811 = .ok (.aload_n 0, 1) := by decide +kernel
theorem dX9_steps_812 : decode cX9_steps 812 = .ok (.getfield 72, 3) := by decide +kernel
theorem dX9_steps_815 : decode cX9_steps 815 = .ok (.aload_n 0, 1) := by decide +kernel
theorem dX9_steps_816 : decode cX9_steps 816 = .ok (.getfield 122, 3) := by decide +kernel
theorem dX9_steps_819 : decode cX9_steps 819 = .ok (.iload 6, 2) := by decide +kernel
theorem dX9_steps_821 : decode cX9_steps 821 = .ok (.iastore, 1) := by decide +kernel
theorem dX9_steps_822 : decode cX9_steps 822 = .ok (.aload_n 0, 1) := by decide +kernel
theorem dX9_steps_823 : decode cX9_steps 823 = .ok (.dup, 1) := by decide +kernel
theorem dX9_steps_824 : decode cX9_steps 824 = .ok (.getfield 122, 3) := by decide +kernel
theorem dX9_steps_827 : decode cX9_steps 827 = .ok (.iconst 1, 1) := by decide +kernel
theorem dX9_steps_828 : decode cX9_steps 828 = .ok (.iadd, 1) := by decide +kernel
theorem dX9_steps_829 : decode cX9_steps 829 = .ok (.putfield 122, 3) := by decide +kernel
theorem dX9_steps_832 : decode cX9_steps 832 = .ok (.goto 253, 3) := by decide +kernel
theorem dX9_steps_835 : decode cX9_steps 835 = .ok (.aload_n 0, 1) := by decide +kernel
theorem dX9_steps_836 : decode cX9_steps 836 = .ok (.iconst 2, 1) := by decide +kernel
theorem dX9_steps_837 : decode cX9_steps 837 = .ok (.putfield 131, 3) := by decide +kernel
theorem dX9_steps_840 : decode cX9_steps 840 = .ok (.goto 245, 3) := by decide +kernel
theorem dX9_steps_843 : decode cX9_steps 843 = .ok (.aload_n 0, 1) := by decide +kernel
theorem dX9_steps_844 : decode cX9_steps 844 = .ok (.getfield 107, 3) := by decide +kernel
theorem dX9_steps_847 : decode cX9_steps 847 = .ok (.iload_n 2, 1) := by decide +kernel
theorem dX9_steps_848 : decode cX9_steps 848 = .ok (.if_icmp .ge 88, 3) := by decide +kernel
theorem dX9_steps_851 : decode cX9_steps 851 = .ok (.aload_n 0, 1) := by decide +kernel
theorem dX9_steps_852 : decode cX9_steps 852 = .ok (.getfield 44, 3) := by decide +kernel
theorem dX9_steps_855 : decode cX9_steps 855 = .ok (.sipush 160, 3) := by decide +kernel
theorem dX9_steps_858 : decode cX9_steps 858 = .ok (.iload_n 1, 1) := by decide +kernel
theorem dX9_steps_859 : decode cX9_steps 859 = .ok (.imul, 1) := by decide +kernel
theorem dX9_steps_860 : decode cX9_steps 860 = .ok (.aload_n 0, 1) := by decide +kernel
theorem dX9_steps_861 : decode cX9_steps 861 = .ok (.getfield 107, 3) := by decide +kernel
theorem dX9_steps_864 : decode cX9_steps 864 = .ok (.iadd, 1) := by decide +kernel
theorem dX9_steps_865 : decode cX9_steps 865 = .ok (.iaload, 1) := by decide +kernel
theorem dX9_steps_866 : decode cX9_steps 866 = .ok (.bipush 10, 2) := by decide +kernel
theorem dX9_steps_868 : decode cX9_steps 868 = .ok (.if_icmp .ne 29, 3) := by decide +kernel
theorem dX9_steps_871 : decode cX9_steps 871 = .ok (.aload_n 0, 1) := by decide +kernel
theorem dX9_steps_872 : decode cX9_steps 872 = .ok (.getfield 47, 3) := by decide +kernel
theorem dX9_steps_875 : decode cX9_steps 875 = .ok (.sipush 160, 3) := by decide +kernel
theorem dX9_steps_878 : decode cX9_steps 878 = .ok (.iload_n 1, 1) := by decide +kernel
theorem dX9_steps_879 : decode cX9_steps 879 = .ok (.imul, 1) := by decide +kernel
theorem dX9_steps_880 : decode cX9_steps 880 = .ok (.aload_n 0, 1) := by decide +kernel
theorem dX9_steps_881 : decode cX9_steps 881 = .ok (.getfield 107, 3) := by decide +kernel
theorem dX9_steps_884 : decode cX9_steps 884 = .ok (.iadd, 1) := by decide +kernel
theorem dX9_steps_885 : decode cX9_steps 885 = .ok (.laload, 1) := by decide +kernel
theorem dX9_steps_886 : decode cX9_steps 886 = .ok (.iload 6, 2) := by decide +kernel
theorem dX9_steps_888 : decode cX9_steps 888 = .ok (.i2l, 1) := by decide +kernel
theorem dX9_steps_889 : decode cX9_steps 889 = .ok (.lcmp, 1) := by decide +kernel
theorem dX9_steps_890 : decode cX9_steps 890 = .ok (.ifCond .ne 7, 3) := by decide +kernel
theorem dX9_steps_893 : decode cX9_steps 893 = .ok (.iconst 1, 1) := by decide +kernel
theorem dX9_steps_894 : decode cX9_steps 894 = .ok (.goto 4, 3) := by decide +kernel
theorem dX9_steps_897 : decode cX9_steps 897 = .ok (.iconst 0, 1) := by decide +kernel
theorem dX9_steps_898 : decode cX9_steps 898 = .ok (.istore 11, 2) := by decide +kernel
theorem dX9_steps_900 : decode cX9_steps 900 = .ok (.aload_n 0, 1) := by decide +kernel
theorem dX9_steps_901 : decode cX9_steps 901 = .ok (.dup, 1) := by decide +kernel
theorem dX9_steps_902 : decode cX9_steps 902 = .ok (.getfield 107, 3) := by decide +kernel
theorem dX9_steps_905 : decode cX9_steps 905 = .ok (.iload 11, 2) := by decide +kernel
theorem dX9_steps_907 : decode cX9_steps 907 = .ok (.ifCond .eq 7, 3) := by decide +kernel
theorem dX9_steps_910 : decode cX9_steps 910 = .ok (.iconst 1, 1) := by decide +kernel
theorem dX9_steps_911 : decode cX9_steps 911 = .ok (.goto 4, 3) := by decide +kernel
theorem dX9_steps_914 : decode cX9_steps 914 = .ok (.iconst 0, 1) := by decide +kernel
theorem dX9_steps_915 : decode cX9_steps 915 = .ok (.iadd, 1) := by decide +kernel
theorem dX9_steps_916 : decode cX9_steps 916 = .ok (.putfield 107, 3) := by decide +kernel
theorem dX9_steps_919 : decode cX9_steps 919 = .ok (.aload_n 0, 1) := by decide +kernel
theorem dX9_steps_920 : decode cX9_steps 920 = .ok (.iload 11, 2) := by decide +kernel
theorem dX9_steps_922 : decode cX9_steps 922 = .ok (.ifCond .eq 7, 3) := by decide +kernel
theorem dX9_steps_925 : decode cX9_steps 925 = .ok (.iconst 1, 1) := by decide +kernel
theorem dX9_steps_926 : decode cX9_steps 926 = .ok (.goto 4, 3) := by decide +kernel
theorem dX9_steps_929 : decode cX9_steps 929 = .ok (.iconst 0, 1) := by decide +kernel
theorem dX9_steps_930 : decode cX9_steps 930 = .ok (.putfield 113, 3) := by decide +kernel
theorem dX9_steps_933 : decode cX9_steps 933 = .ok (.goto 152, 3) := by decide +kernel
theorem dX9_steps_936 : decode cX9_steps 936 = .ok (.aload_n 0, 1) := by decide +kernel
theorem dX9_steps_937 : decode cX9_steps 937 = .ok (.iload_n 1, 1) := by decide +kernel
theorem dX9_steps_938 : decode cX9_steps 938 = .ok (.iload_n 2, 1) := by decide +kernel
theorem dX9_steps_939 : decode cX9_steps 939 = .ok (.iload_n 3, 1) := by decide +kernel
theorem dX9_steps_940 : decode cX9_steps 940 = .ok (.bipush 10, 2) := by decide +kernel
theorem dX9_steps_942 : decode cX9_steps 942 = .ok (.iload 6, 2) := by decide +kernel
theorem dX9_steps_944 : decode cX9_steps 944 = .ok (.i2l, 1) := by decide +kernel
theorem dX9_steps_945 : decode cX9_steps 945 = .ok (.iconst 0, 1) := by decide +kernel
theorem dX9_steps_946 : decode cX9_steps 946 = .ok (.invokevirtual 164, 3) := by decide +kernel
theorem dX9_steps_949 : decode cX9_steps 949 = .ok (.istore 10, 2) := by decide +kernel
theorem dX9_steps_951 : decode cX9_steps 951 = .ok (.aload_n 0, 1) := by decide +kernel
theorem dX9_steps_952 : decode cX9_steps 952 = .ok (.iload 10, 2) := by decide +kernel
theorem dX9_steps_954 : decode cX9_steps 954 = .ok (.ifCond .eq 7, 3) := by decide +kernel
theorem dX9_steps_957 : decode cX9_steps 957 = .ok (.iconst 1, 1) := by decide +kernel
theorem dX9_steps_958 : decode cX9_steps 958 = .ok (.goto 7, 3) := by decide +kernel
theorem dX9_steps_961 : decode cX9_steps 961 = .ok (.aload_n 0, 1) := by decide +kernel
theorem dX9_steps_962 : decode cX9_steps 962 = .ok (.getfield 113, 3) := by decide +kernel
theorem dX9_steps_965 : decode cX9_steps 965 = .ok (.putfield 113, 3) := by decide +kernel
theorem dX9_steps_968 : decode cX9_steps 968 = .ok (.goto 117, 3) := by decide +kernel
theorem dX9_steps_971 : decode cX9_steps 971 = .ok (.aload_n 0, 1) := by decide +kernel
theorem dX9_steps_972 : decode cX9_steps 972 = .ok (.iconst 1, 1) := by decide +kernel
theorem dX9_steps_973 : decode cX9_steps 973 = .ok (.putfield 125, 3) := by decide +kernel
theorem dX9_steps_976 : decode cX9_steps 976 = .ok (.goto 109, 3) := by decide +kernel
theorem dX9_steps_979 : decode cX9_steps 979 = .ok (.aload_n 0, 1) := by decide +kernel
theorem dX9_steps_980 : decode cX9_steps 980 = .ok (.iconst 0, 1) := by decide +kernel
theorem dX9_steps_981 : decode cX9_steps 981 = .ok (.putfield 125, 3) := by decide +kernel
theorem dX9_steps_984 : decode cX9_steps 984 = .ok (.aload_n 0, 1) := by decide +kernel
theorem dX9_steps_985 : decode cX9_steps 985 = .ok (.aload_n 0, 1) := by decide +kernel
theorem dX9_steps_986 : decode cX9_steps 986 = .ok (.getfield 128, 3) := by decide +kernel
theorem dX9_steps_989 : decode cX9_steps 989 = .ok (.ifCond .eq 7, 3) := by decide +kernel
theorem dX9_steps_992 : decode cX9_steps 992 = .ok (.iconst 3, 1) := by decide +kernel
theorem dX9_steps_993 : decode cX9_steps 993 = .ok (.goto 7, 3) := by decide +kernel
theorem dX9_steps_996 : decode cX9_steps 996 = .ok (.aload_n 0, 1) := by decide +kernel
theorem dX9_steps_997 : decode cX9_steps 997 = .ok (.getfield 131, 3) := by decide +kernel
theorem dX9_steps_1000 : decode cX9_steps 1000 = .ok (.putfield 131, 3) := by decide +kernel
theorem dX9_steps_1003 : decode cX9_steps 1003 = .ok (.aload_n 0, 1) := by decide +kernel
theorem dX9_steps_1004 : decode cX9_steps 1004 = .ok (.iconst 0, 1) := by decide +kernel
theorem dX9_steps_1005 : decode cX9_steps 1005 = .ok (.putfield 128, 3) := by decide +kernel
theorem dX9_steps_1008 : decode cX9_steps 1008 = .ok (.goto 77, 3) := by decide +kernel
theorem dX9_steps_1011 : decode cX9_steps 1011 = .ok (.aload_n 0, 1) := by decide +kernel
theorem dX9_steps_1012 : decode cX9_steps 1012 = .ok (.iload_n 1, 1) := by decide +kernel
theorem dX9_steps_1013 : decode cX9_steps 1013 = .ok (.iload_n 2, 1) := by decide +kernel
theorem dX9_steps_1014 : decode cX9_steps 1014 = .ok (.iload_n 3, 1) := by decide +kernel
theorem dX9_steps_1015 : decode cX9_steps 1015 = .ok (.bipush 14, 2) := by decide +kernel
theorem dX9_steps_1017 : decode cX9_steps 1017 = .ok (.aload_n 0, 1) := by decide +kernel
theorem dX9_steps_1018 : decode cX9_steps 1018 = .ok (.getfield 23, 3) := by decide +kernel
theorem dX9_steps_1021 : decode cX9_steps 1021 = .ok (.iload_n 1, 1) := by decide +kernel
theorem dX9_steps_1022 : decode cX9_steps 1022 = .ok (.iaload, 1) := by decide +kernel
theorem dX9_steps_1023 : decode cX9_steps 1023 = .ok (.aload_n 0, 1) := by decide +kernel
theorem dX9_steps_1024 : decode cX9_steps 1024 = .ok (.getfield 26, 3) := by decide +kernel
theorem dX9_steps_1027 : decode cX9_steps 1027 = .ok (.iload_n 1, 1) := by decide +kernel
theorem dX9_steps_1028 : decode cX9_steps 1028 = .ok (.iaload, 1) := by decide +kernel
theorem dX9_steps_1029 : decode cX9_steps 1029 = .ok (.aload_n 0, 1) := by decide +kernel
theorem dX9_steps_1030 : decode cX9_steps 1030 = .ok (.getfield 26, 3) := by decide +kernel
theorem dX9_steps_1033 : decode cX9_steps 1033 = .ok (.iload_n 1, 1) := by decide +kernel
theorem dX9_steps_1034 : decode cX9_steps 1034 = .ok (.iaload, 1) := by decide +kernel
theorem dX9_steps_1035 : decode cX9_steps 1035 = .ok (.iconst (-1), 1) := by decide +kernel
theorem dX9_steps_1036 : decode cX9_steps 1036 = .ok (.if_icmp .ne 7, 3) := by decide +kernel
theorem dX9_steps_1039 : decode cX9_steps 1039 = .ok (.iconst (-1), 1) := by decide +kernel
