theorem dJx4a65c_init_da8c8_0 : decode cJx4a65c_init_da8c8 0 = .ok (.aload_n 0, 1) := by decide +kernel
theorem dJx4a65c_init_da8c8_1 : decode cJx4a65c_init_da8c8 1 = .ok (.invokespecial 1, 3) := by decide +kernel
theorem dJx4a65c_init_da8c8_11 : decode cJx4a65c_init_da8c8 11 = .ok (.return_, 1) := by decide +kernel
theorem dJx4a65c_init_da8c8_4 : decode cJx4a65c_init_da8c8 4 = .ok (.aload_n 0, 1) := by decide +kernel
theorem dJx4a65c_init_da8c8_5 : decode cJx4a65c_init_da8c8 5 = .ok (.getstatic 39, 3) := by decide +kernel
theorem dJx4a65c_init_da8c8_8 : decode cJx4a65c_init_da8c8 8 = .ok (.putfield 9, 3) := by decide +kernel
theorem dJx4a65c_size_8abf5_0 : decode cJx4a65c_size_8abf5 0 = .ok (.aload_n 0, 1) := by decide +kernel
theorem dJx4a65c_size_8abf5_1 : decode cJx4a65c_size_8abf5 1 = .ok (.getfield 48, 3) := by decide +kernel
theorem dJx4a65c_size_8abf5_4 : decode cJx4a65c_size_8abf5 4 = .ok (.ireturn, 1) := by decide +kernel
theorem dJxa1e45_init_da8c8_0 : decode cJxa1e45_init_da8c8 0 = .ok (.aload_n 0, 1) := by decide +kernel
theorem dJxa1e45_init_da8c8_1 : decode cJxa1e45_init_da8c8 1 = .ok (.invokespecial 1, 3) := by decide +kernel
theorem dJxa1e45_init_da8c8_4 : decode cJxa1e45_init_da8c8 4 = .ok (.return_, 1) := by decide +kernel
theorem dJxc12de_init_da8c8_0 : decode cJxc12de_init_da8c8 0 = .ok (.aload_n 0, 1) := by decide +kernel
theorem dJxc12de_init_da8c8_1 : decode cJxc12de_init_da8c8 1 = .ok (.invokespecial 1, 3) := by decide +kernel
theorem dJxc12de_init_da8c8_4 : decode cJxc12de_init_da8c8 4 = .ok (.aload_n 0, 1) := by decide +kernel
theorem dJxc12de_init_da8c8_5 : decode cJxc12de_init_da8c8 5 = .ok (.iconst 0, 1) := by decide +kernel
theorem dJxc12de_init_da8c8_6 : decode cJxc12de_init_da8c8 6 = .ok (.putfield 7, 3) := by decide +kernel
theorem dJxc12de_init_da8c8_9 : decode cJxc12de_init_da8c8 9 = .ok (.return_, 1) := by decide +kernel
theorem dL_aboutAnew_0 : decode cL_aboutAnew 0 = .ok (.aload_n 3, 1) := by decide +kernel
theorem dL_aboutAnew_1 : decode cL_aboutAnew 1 = .ok (.iconst 0, 1) := by decide +kernel
theorem dL_aboutAnew_13 : decode cL_aboutAnew 13 = .ok (.astore 4, 2) := by decide +kernel
theorem dL_aboutAnew_15 : decode cL_aboutAnew 15 = .ok (.iconst 1, 1) := by decide +kernel
theorem dL_aboutAnew_16 : decode cL_aboutAnew 16 = .ok (.ireturn, 1) := by decide +kernel
theorem dL_aboutAnew_2 : decode cL_aboutAnew 2 = .ok (.aload_n 0, 1) := by decide +kernel
theorem dL_aboutAnew_3 : decode cL_aboutAnew 3 = .ok (.iload_n 1, 1) := by decide +kernel
theorem dL_aboutAnew_4 : decode cL_aboutAnew 4 = .ok (.iload_n 2, 1) := by decide +kernel
theorem dL_aboutAnew_5 : decode cL_aboutAnew 5 = .ok (.invokevirtual 51, 3) := by decide +kernel
theorem dL_about_0 : decode cL_about 0 = .ok (.aload_n 3, 1) := by decide +kernel
theorem dL_about_1 : decode cL_about 1 = .ok (.iconst 0, 1) := by decide +kernel
theorem dL_about_13 : decode cL_about 13 = .ok (.astore 4, 2) := by decide +kernel
theorem dL_about_15 : decode cL_about 15 = .ok (.iconst 1, 1) := by decide +kernel
theorem dL_about_16 : decode cL_about 16 = .ok (.ireturn, 1) := by decide +kernel
theorem dL_about_2 : decode cL_about 2 = .ok (.aload_n 0, 1) := by decide +kernel
theorem dL_about_3 : decode cL_about 3 = .ok (.iload_n 1, 1) := by decide +kernel
theorem dL_about_4 : decode cL_about 4 = .ok (.iload_n 2, 1) := by decide +kernel
theorem dL_about_5 : decode cL_about 5 = .ok (.invokevirtual 48, 3) := by decide +kernel
theorem dL_cancel_0 : decode cL_cancel 0 = .ok (.aload_n 2, 1) := by decide +kernel
theorem dL_cancel_1 : decode cL_cancel 1 = .ok (.iconst 0, 1) := by decide +kernel
theorem dL_cancel_19 : decode cL_cancel 19 = .ok (.astore_n 3, 1) := by decide +kernel
theorem dL_cancel_2 : decode cL_cancel 2 = .ok (.aload_n 0, 1) := by decide +kernel
theorem dL_cancel_20 : decode cL_cancel 20 = .ok (.iconst 1, 1) := by decide +kernel
theorem dL_cancel_21 : decode cL_cancel 21 = .ok (.ireturn, 1) := by decide +kernel
theorem dL_cancel_3 : decode cL_cancel 3 = .ok (.iload_n 1, 1) := by decide +kernel
theorem dL_cancel_4 : decode cL_cancel 4 = .ok (.invokevirtual 30, 3) := by decide +kernel
theorem dL_check_0 : decode cL_check 0 = .ok (.aload 6, 2) := by decide +kernel
theorem dL_check_11 : decode cL_check 11 = .ok (.invokevirtual 17, 3) := by decide +kernel
theorem dL_check_14 : decode cL_check 14 = .ok (.i2l, 1) := by decide +kernel
theorem dL_check_15 : decode cL_check 15 = .ok (.lastore, 1) := by decide +kernel
theorem dL_check_16 : decode cL_check 16 = .ok (.goto 11, 3) := by decide +kernel
theorem dL_check_19 : decode cL_check 19 = .ok (.astore 7, 2) := by decide +kernel
theorem dL_check_2 : decode cL_check 2 = .ok (.iconst 0, 1) := by decide +kernel
theorem dL_check_21 : decode cL_check 21 = .ok (.iconst 1, 1) := by decide +kernel
theorem dL_check_22 : decode cL_check 22 = .ok (.ireturn, 1) := by decide +kernel
theorem dL_check_23 : decode cL_check 23 = .ok (.astore 7, 2) := by decide +kernel
theorem dL_check_25 : decode cL_check 25 = .ok (.iconst 2, 1) := by decide +kernel
theorem dL_check_26 : decode cL_check 26 = .ok (.ireturn, 1) := by decide +kernel
theorem dL_check_27 : decode cL_check 27 = .ok (.iconst 0, 1) := by decide +kernel
theorem dL_check_28 : decode cL_check 28 = .ok (.ireturn, 1) := by decide +kernel
theorem dL_check_3 : decode cL_check 3 = .ok (.aload_n 0, 1) := by decide +kernel
theorem dL_check_4 : decode cL_check 4 = .ok (.iload_n 1, 1) := by decide +kernel
theorem dL_check_5 : decode cL_check 5 = .ok (.iload_n 2, 1) := by decide +kernel
theorem dL_check_6 : decode cL_check 6 = .ok (.iload_n 3, 1) := by decide +kernel
theorem dL_check_7 : decode cL_check 7 = .ok (.iload 4, 2) := by decide +kernel
theorem dL_check_9 : decode cL_check 9 = .ok (.iload 5, 2) := by decide +kernel
theorem dL_complete_0 : decode cL_complete 0 = .ok (.aload_n 3, 1) := by decide +kernel
theorem dL_complete_1 : decode cL_complete 1 = .ok (.iconst 0, 1) := by decide +kernel
theorem dL_complete_15 : decode cL_complete 15 = .ok (.lconst 0, 1) := by decide +kernel
theorem dL_complete_16 : decode cL_complete 16 = .ok (.lastore, 1) := by decide +kernel
theorem dL_complete_17 : decode cL_complete 17 = .ok (.goto 7, 3) := by decide +kernel
theorem dL_complete_2 : decode cL_complete 2 = .ok (.aload_n 0, 1) := by decide +kernel
theorem dL_complete_20 : decode cL_complete 20 = .ok (.astore 4, 2) := by decide +kernel
theorem dL_complete_22 : decode cL_complete 22 = .ok (.iconst 1, 1) := by decide +kernel
theorem dL_complete_23 : decode cL_complete 23 = .ok (.ireturn, 1) := by decide +kernel
theorem dL_complete_24 : decode cL_complete 24 = .ok (.iconst 0, 1) := by decide +kernel
theorem dL_complete_25 : decode cL_complete 25 = .ok (.ireturn, 1) := by decide +kernel
theorem dL_complete_3 : decode cL_complete 3 = .ok (.iload_n 1, 1) := by decide +kernel
theorem dL_complete_4 : decode cL_complete 4 = .ok (.iload_n 2, 1) := by decide +kernel
theorem dL_complete_5 : decode cL_complete 5 = .ok (.invokevirtual 37, 3) := by decide +kernel
theorem dL_complete_8 : decode cL_complete 8 = .ok (.ifCond .eq 7, 3) := by decide +kernel
theorem dL_events_0 : decode cL_events 0 = .ok (.aload_n 2, 1) := by decide +kernel
theorem dL_events_1 : decode cL_events 1 = .ok (.iconst 0, 1) := by decide +kernel
theorem dL_events_12 : decode cL_events 12 = .ok (.astore_n 3, 1) := by decide +kernel
theorem dL_events_13 : decode cL_events 13 = .ok (.iconst 1, 1) := by decide +kernel
theorem dL_events_14 : decode cL_events 14 = .ok (.ireturn, 1) := by decide +kernel
theorem dL_events_2 : decode cL_events 2 = .ok (.aload_n 0, 1) := by decide +kernel
theorem dL_events_3 : decode cL_events 3 = .ok (.iload_n 1, 1) := by decide +kernel
theorem dL_events_4 : decode cL_events 4 = .ok (.invokevirtual 57, 3) := by decide +kernel
theorem dL_kind_0 : decode cL_kind 0 = .ok (.aload_n 3, 1) := by decide +kernel
theorem dL_kind_1 : decode cL_kind 1 = .ok (.iconst 0, 1) := by decide +kernel
theorem dL_kind_13 : decode cL_kind 13 = .ok (.astore 4, 2) := by decide +kernel
theorem dL_kind_15 : decode cL_kind 15 = .ok (.iconst 1, 1) := by decide +kernel
theorem dL_kind_16 : decode cL_kind 16 = .ok (.ireturn, 1) := by decide +kernel
theorem dL_kind_2 : decode cL_kind 2 = .ok (.aload_n 0, 1) := by decide +kernel
theorem dL_kind_3 : decode cL_kind 3 = .ok (.iload_n 1, 1) := by decide +kernel
theorem dL_kind_4 : decode cL_kind 4 = .ok (.iload_n 2, 1) := by decide +kernel
theorem dL_kind_5 : decode cL_kind 5 = .ok (.invokevirtual 60, 3) := by decide +kernel
theorem dL_law_0 : decode cL_law 0 = .ok (.new 8, 3) := by decide +kernel
theorem dL_law_1000 : decode cL_law 1000 = .ok (.invokestatic 134, 3) := by decide +kernel
theorem dL_law_1003 : decode cL_law 1003 = .ok (.istore 5, 2) := by decide +kernel
theorem dL_law_1005 : decode cL_law 1005 = .ok (.aload_n 2, 1) := by decide +kernel
theorem dL_law_1006 : decode cL_law 1006 = .ok (.aload_n 0, 1) := by decide +kernel
theorem dL_law_1007 : decode cL_law 1007 = .ok (.iload 4, 2) := by decide +kernel
theorem dL_law_1009 : decode cL_law 1009 = .ok (.iconst 1, 1) := by decide +kernel
theorem dL_law_1010 : decode cL_law 1010 = .ok (.iadd, 1) := by decide +kernel
theorem dL_law_1011 : decode cL_law 1011 = .ok (.iaload, 1) := by decide +kernel
theorem dL_law_1012 : decode cL_law 1012 = .ok (.aload_n 0, 1) := by decide +kernel
theorem dL_law_1013 : decode cL_law 1013 = .ok (.iload 4, 2) := by decide +kernel
theorem dL_law_1015 : decode cL_law 1015 = .ok (.iconst 2, 1) := by decide +kernel
theorem dL_law_1016 : decode cL_law 1016 = .ok (.iadd, 1) := by decide +kernel
theorem dL_law_1017 : decode cL_law 1017 = .ok (.iaload, 1) := by decide +kernel
theorem dL_law_1018 : decode cL_law 1018 = .ok (.invokevirtual 136, 3) := by decide +kernel
theorem dL_law_1021 : decode cL_law 1021 = .ok (.istore 6, 2) := by decide +kernel
theorem dL_law_1023 : decode cL_law 1023 = .ok (.aload_n 2, 1) := by decide +kernel
theorem dL_law_1024 : decode cL_law 1024 = .ok (.invokevirtual 80, 3) := by decide +kernel
theorem dL_law_1027 : decode cL_law 1027 = .ok (.iload 5, 2) := by decide +kernel
theorem dL_law_1029 : decode cL_law 1029 = .ok (.if_icmp .eq 5, 3) := by decide +kernel
theorem dL_law_1032 : decode cL_law 1032 = .ok (.iconst 0, 1) := by decide +kernel
theorem dL_law_1033 : decode cL_law 1033 = .ok (.ireturn, 1) := by decide +kernel
theorem dL_law_1034 : decode cL_law 1034 = .ok (.iload 5, 2) := by decide +kernel
theorem dL_law_1036 : decode cL_law 1036 = .ok (.ifCond .ne 15, 3) := by decide +kernel
theorem dL_law_1039 : decode cL_law 1039 = .ok (.aload_n 3, 1) := by decide +kernel
theorem dL_law_1040 : decode cL_law 1040 = .ok (.iconst 0, 1) := by decide +kernel
theorem dL_law_1041 : decode cL_law 1041 = .ok (.laload, 1) := by decide +kernel
theorem dL_law_1042 : decode cL_law 1042 = .ok (.iload 6, 2) := by decide +kernel
theorem dL_law_1044 : decode cL_law 1044 = .ok (.i2l, 1) := by decide +kernel
theorem dL_law_1045 : decode cL_law 1045 = .ok (.lcmp, 1) := by decide +kernel
theorem dL_law_1046 : decode cL_law 1046 = .ok (.ifCond .eq 5, 3) := by decide +kernel
theorem dL_law_1049 : decode cL_law 1049 = .ok (.iconst 0, 1) := by decide +kernel
theorem dL_law_1050 : decode cL_law 1050 = .ok (.ireturn, 1) := by decide +kernel
theorem dL_law_1051 : decode cL_law 1051 = .ok (.goto 344, 3) := by decide +kernel
theorem dL_law_1054 : decode cL_law 1054 = .ok (.aload_n 1, 1) := by decide +kernel
theorem dL_law_1055 : decode cL_law 1055 = .ok (.aload_n 0, 1) := by decide +kernel
theorem dL_law_1056 : decode cL_law 1056 = .ok (.iload 4, 2) := by decide +kernel
theorem dL_law_1058 : decode cL_law 1058 = .ok (.iconst 1, 1) := by decide +kernel
theorem dL_law_1059 : decode cL_law 1059 = .ok (.iadd, 1) := by decide +kernel
theorem dL_law_1060 : decode cL_law 1060 = .ok (.iaload, 1) := by decide +kernel
theorem dL_law_1061 : decode cL_law 1061 = .ok (.aload_n 3, 1) := by decide +kernel
theorem dL_law_1062 : decode cL_law 1062 = .ok (.invokestatic 137, 3) := by decide +kernel
theorem dL_law_1065 : decode cL_law 1065 = .ok (.istore 5, 2) := by decide +kernel
theorem dL_law_1067 : decode cL_law 1067 = .ok (.aload_n 2, 1) := by decide +kernel
theorem dL_law_1068 : decode cL_law 1068 = .ok (.aload_n 0, 1) := by decide +kernel
theorem dL_law_1069 : decode cL_law 1069 = .ok (.iload 4, 2) := by decide +kernel
theorem dL_law_1071 : decode cL_law 1071 = .ok (.iconst 1, 1) := by decide +kernel
theorem dL_law_1072 : decode cL_law 1072 = .ok (.iadd, 1) := by decide +kernel
theorem dL_law_1073 : decode cL_law 1073 = .ok (.iaload, 1) := by decide +kernel
theorem dL_law_1074 : decode cL_law 1074 = .ok (.invokevirtual 139, 3) := by decide +kernel
theorem dL_law_1077 : decode cL_law 1077 = .ok (.istore 6, 2) := by decide +kernel
theorem dL_law_1079 : decode cL_law 1079 = .ok (.aload_n 2, 1) := by decide +kernel
theorem dL_law_1080 : decode cL_law 1080 = .ok (.invokevirtual 80, 3) := by decide +kernel
theorem dL_law_1083 : decode cL_law 1083 = .ok (.iload 5, 2) := by decide +kernel
theorem dL_law_1085 : decode cL_law 1085 = .ok (.if_icmp .eq 5, 3) := by decide +kernel
theorem dL_law_1088 : decode cL_law 1088 = .ok (.iconst 0, 1) := by decide +kernel
theorem dL_law_1089 : decode cL_law 1089 = .ok (.ireturn, 1) := by decide +kernel
theorem dL_law_1090 : decode cL_law 1090 = .ok (.iload 5, 2) := by decide +kernel
theorem dL_law_1092 : decode cL_law 1092 = .ok (.ifCond .ne 15, 3) := by decide +kernel
theorem dL_law_1095 : decode cL_law 1095 = .ok (.aload_n 3, 1) := by decide +kernel
theorem dL_law_1096 : decode cL_law 1096 = .ok (.iconst 0, 1) := by decide +kernel
theorem dL_law_1097 : decode cL_law 1097 = .ok (.laload, 1) := by decide +kernel
theorem dL_law_1098 : decode cL_law 1098 = .ok (.iload 6, 2) := by decide +kernel
theorem dL_law_11 : decode cL_law 11 = .ok (.dup, 1) := by decide +kernel
theorem dL_law_1100 : decode cL_law 1100 = .ok (.i2l, 1) := by decide +kernel
theorem dL_law_1101 : decode cL_law 1101 = .ok (.lcmp, 1) := by decide +kernel
theorem dL_law_1102 : decode cL_law 1102 = .ok (.ifCond .eq 5, 3) := by decide +kernel
theorem dL_law_1105 : decode cL_law 1105 = .ok (.iconst 0, 1) := by decide +kernel
theorem dL_law_1106 : decode cL_law 1106 = .ok (.ireturn, 1) := by decide +kernel
theorem dL_law_1107 : decode cL_law 1107 = .ok (.goto 288, 3) := by decide +kernel
theorem dL_law_1110 : decode cL_law 1110 = .ok (.aload_n 1, 1) := by decide +kernel
theorem dL_law_1111 : decode cL_law 1111 = .ok (.aload_n 0, 1) := by decide +kernel
theorem dL_law_1112 : decode cL_law 1112 = .ok (.iload 4, 2) := by decide +kernel
theorem dL_law_1114 : decode cL_law 1114 = .ok (.iconst 1, 1) := by decide +kernel
theorem dL_law_1115 : decode cL_law 1115 = .ok (.iadd, 1) := by decide +kernel
theorem dL_law_1116 : decode cL_law 1116 = .ok (.iaload, 1) := by decide +kernel
theorem dL_law_1117 : decode cL_law 1117 = .ok (.aload_n 3, 1) := by decide +kernel
theorem dL_law_1118 : decode cL_law 1118 = .ok (.invokestatic 140, 3) := by decide +kernel
theorem dL_law_1121 : decode cL_law 1121 = .ok (.istore 5, 2) := by decide +kernel
theorem dL_law_1123 : decode cL_law 1123 = .ok (.aload_n 2, 1) := by decide +kernel
theorem dL_law_1124 : decode cL_law 1124 = .ok (.aload_n 0, 1) := by decide +kernel
theorem dL_law_1125 : decode cL_law 1125 = .ok (.iload 4, 2) := by decide +kernel
theorem dL_law_1127 : decode cL_law 1127 = .ok (.iconst 1, 1) := by decide +kernel
theorem dL_law_1128 : decode cL_law 1128 = .ok (.iadd, 1) := by decide +kernel
theorem dL_law_1129 : decode cL_law 1129 = .ok (.iaload, 1) := by decide +kernel
theorem dL_law_1130 : decode cL_law 1130 = .ok (.invokevirtual 142, 3) := by decide +kernel
theorem dL_law_1133 : decode cL_law 1133 = .ok (.istore 6, 2) := by decide +kernel
theorem dL_law_1135 : decode cL_law 1135 = .ok (.aload_n 2, 1) := by decide +kernel
theorem dL_law_1136 : decode cL_law 1136 = .ok (.invokevirtual 80, 3) := by decide +kernel
theorem dL_law_1139 : decode cL_law 1139 = .ok (.iload 5, 2) := by decide +kernel
theorem dL_law_1141 : decode cL_law 1141 = .ok (.if_icmp .eq 5, 3) := by decide +kernel
theorem dL_law_1144 : decode cL_law 1144 = .ok (.iconst 0, 1) := by decide +kernel
theorem dL_law_1145 : decode cL_law 1145 = .ok (.ireturn, 1) := by decide +kernel
theorem dL_law_1146 : decode cL_law 1146 = .ok (.iload 5, 2) := by decide +kernel
theorem dL_law_1148 : decode cL_law 1148 = .ok (.ifCond .ne 15, 3) := by decide +kernel
theorem dL_law_1151 : decode cL_law 1151 = .ok (.aload_n 3, 1) := by decide +kernel
theorem dL_law_1152 : decode cL_law 1152 = .ok (.iconst 0, 1) := by decide +kernel
theorem dL_law_1153 : decode cL_law 1153 = .ok (.laload, 1) := by decide +kernel
theorem dL_law_1154 : decode cL_law 1154 = .ok (.iload 6, 2) := by decide +kernel
theorem dL_law_1156 : decode cL_law 1156 = .ok (.i2l, 1) := by decide +kernel
theorem dL_law_1157 : decode cL_law 1157 = .ok (.lcmp, 1) := by decide +kernel
theorem dL_law_1158 : decode cL_law 1158 = .ok (.ifCond .eq 5, 3) := by decide +kernel
theorem dL_law_1161 : decode cL_law 1161 = .ok (.iconst 0, 1) := by decide +kernel
theorem dL_law_1162 : decode cL_law 1162 = .ok (.ireturn, 1) := by decide +kernel
theorem dL_law_1163 : decode cL_law 1163 = .ok (.goto 232, 3) := by decide +kernel
theorem dL_law_1166 : decode cL_law 1166 = .ok (.aload_n 1, 1) := by decide +kernel
theorem dL_law_1167 : decode cL_law 1167 = .ok (.aload_n 0, 1) := by decide +kernel
theorem dL_law_1168 : decode cL_law 1168 = .ok (.iload 4, 2) := by decide +kernel
theorem dL_law_1170 : decode cL_law 1170 = .ok (.iconst 1, 1) := by decide +kernel
theorem dL_law_1171 : decode cL_law 1171 = .ok (.iadd, 1) := by decide +kernel
theorem dL_law_1172 : decode cL_law 1172 = .ok (.iaload, 1) := by decide +kernel
theorem dL_law_1173 : decode cL_law 1173 = .ok (.aload_n 0, 1) := by decide +kernel
theorem dL_law_1174 : decode cL_law 1174 = .ok (.iload 4, 2) := by decide +kernel
theorem dL_law_1176 : decode cL_law 1176 = .ok (.iconst 2, 1) := by decide +kernel
theorem dL_law_1177 : decode cL_law 1177 = .ok (.iadd, 1) := by decide +kernel
theorem dL_law_1178 : decode cL_law 1178 = .ok (.iaload, 1) := by decide +kernel
theorem dL_law_1179 : decode cL_law 1179 = .ok (.aload_n 3, 1) := by decide +kernel
theorem dL_law_1180 : decode cL_law 1180 = .ok (.invokestatic 143, 3) := by decide +kernel
theorem dL_law_1183 : decode cL_law 1183 = .ok (.istore 5, 2) := by decide +kernel
theorem dL_law_1185 : decode cL_law 1185 = .ok (.aload_n 2, 1) := by decide +kernel
theorem dL_law_1186 : decode cL_law 1186 = .ok (.aload_n 0, 1) := by decide +kernel
theorem dL_law_1187 : decode cL_law 1187 = .ok (.iload 4, 2) := by decide +kernel
theorem dL_law_1189 : decode cL_law 1189 = .ok (.iconst 1, 1) := by decide +kernel
theorem dL_law_1190 : decode cL_law 1190 = .ok (.iadd, 1) := by decide +kernel
theorem dL_law_1191 : decode cL_law 1191 = .ok (.iaload, 1) := by decide +kernel
theorem dL_law_1192 : decode cL_law 1192 = .ok (.aload_n 0, 1) := by decide +kernel
theorem dL_law_1193 : decode cL_law 1193 = .ok (.iload 4, 2) := by decide +kernel
theorem dL_law_1195 : decode cL_law 1195 = .ok (.iconst 2, 1) := by decide +kernel
theorem dL_law_1196 : decode cL_law 1196 = .ok (.iadd, 1) := by decide +kernel
theorem dL_law_1197 : decode cL_law 1197 = .ok (.iaload, 1) := by decide +kernel
theorem dL_law_1198 : decode cL_law 1198 = .ok (.invokevirtual 145, 3) := by decide +kernel
theorem dL_law_12 : decode cL_law 12 = .ok (.invokespecial 73, 3) := by decide +kernel
theorem dL_law_1201 : decode cL_law 1201 = .ok (.istore 6, 2) := by decide +kernel
theorem dL_law_1203 : decode cL_law 1203 = .ok (.aload_n 2, 1) := by decide +kernel
theorem dL_law_1204 : decode cL_law 1204 = .ok (.invokevirtual 80, 3) := by decide +kernel
theorem dL_law_1207 : decode cL_law 1207 = .ok (.iload 5, 2) := by decide +kernel
theorem dL_law_1209 : decode cL_law 1209 = .ok (.if_icmp .eq 5, 3) := by decide +kernel
theorem dL_law_1212 : decode cL_law 1212 = .ok (.iconst 0, 1) := by decide +kernel
theorem dL_law_1213 : decode cL_law 1213 = .ok (.ireturn, 1) := by decide +kernel
theorem dL_law_1214 : decode cL_law 1214 = .ok (.iload 5, 2) := by decide +kernel
theorem dL_law_1216 : decode cL_law 1216 = .ok (.ifCond .ne 15, 3) := by decide +kernel
theorem dL_law_1219 : decode cL_law 1219 = .ok (.aload_n 3, 1) := by decide +kernel
theorem dL_law_1220 : decode cL_law 1220 = .ok (.iconst 0, 1) := by decide +kernel
theorem dL_law_1221 : decode cL_law 1221 = .ok (.laload, 1) := by decide +kernel
theorem dL_law_1222 : decode cL_law 1222 = .ok (.iload 6, 2) := by decide +kernel
theorem dL_law_1224 : decode cL_law 1224 = .ok (.i2l, 1) := by decide +kernel
theorem dL_law_1225 : decode cL_law 1225 = .ok (.lcmp, 1) := by decide +kernel
theorem dL_law_1226 : decode cL_law 1226 = .ok (.ifCond .eq 5, 3) := by decide +kernel
theorem dL_law_1229 : decode cL_law 1229 = .ok (.iconst 0, 1) := by decide +kernel
theorem dL_law_1230 : decode cL_law 1230 = .ok (.ireturn, 1) := by decide +kernel
theorem dL_law_1231 : decode cL_law 1231 = .ok (.goto 164, 3) := by decide +kernel
theorem dL_law_1234 : decode cL_law 1234 = .ok (.aload_n 1, 1) := by decide +kernel
theorem dL_law_1235 : decode cL_law 1235 = .ok (.aload_n 0, 1) := by decide +kernel
theorem dL_law_1236 : decode cL_law 1236 = .ok (.iload 4, 2) := by decide +kernel
theorem dL_law_1238 : decode cL_law 1238 = .ok (.iconst 1, 1) := by decide +kernel
theorem dL_law_1239 : decode cL_law 1239 = .ok (.iadd, 1) := by decide +kernel
theorem dL_law_1240 : decode cL_law 1240 = .ok (.iaload, 1) := by decide +kernel
theorem dL_law_1241 : decode cL_law 1241 = .ok (.aload_n 0, 1) := by decide +kernel
theorem dL_law_1242 : decode cL_law 1242 = .ok (.iload 4, 2) := by decide +kernel
theorem dL_law_1244 : decode cL_law 1244 = .ok (.iconst 2, 1) := by decide +kernel
theorem dL_law_1245 : decode cL_law 1245 = .ok (.iadd, 1) := by decide +kernel
theorem dL_law_1246 : decode cL_law 1246 = .ok (.iaload, 1) := by decide +kernel
theorem dL_law_1247 : decode cL_law 1247 = .ok (.aload_n 3, 1) := by decide +kernel
theorem dL_law_1248 : decode cL_law 1248 = .ok (.invokestatic 146, 3) := by decide +kernel
theorem dL_law_1251 : decode cL_law 1251 = .ok (.istore 5, 2) := by decide +kernel
theorem dL_law_1253 : decode cL_law 1253 = .ok (.aload_n 2, 1) := by decide +kernel
theorem dL_law_1254 : decode cL_law 1254 = .ok (.aload_n 0, 1) := by decide +kernel
theorem dL_law_1255 : decode cL_law 1255 = .ok (.iload 4, 2) := by decide +kernel
theorem dL_law_1257 : decode cL_law 1257 = .ok (.iconst 1, 1) := by decide +kernel
theorem dL_law_1258 : decode cL_law 1258 = .ok (.iadd, 1) := by decide +kernel
theorem dL_law_1259 : decode cL_law 1259 = .ok (.iaload, 1) := by decide +kernel
theorem dL_law_1260 : decode cL_law 1260 = .ok (.aload_n 0, 1) := by decide +kernel
theorem dL_law_1261 : decode cL_law 1261 = .ok (.iload 4, 2) := by decide +kernel
theorem dL_law_1263 : decode cL_law 1263 = .ok (.iconst 2, 1) := by decide +kernel
theorem dL_law_1264 : decode cL_law 1264 = .ok (.iadd, 1) := by decide +kernel
theorem dL_law_1265 : decode cL_law 1265 = .ok (.iaload, 1) := by decide +kernel
theorem dL_law_1266 : decode cL_law 1266 = .ok (.invokevirtual 148, 3) := by decide +kernel
theorem dL_law_1269 : decode cL_law 1269 = .ok (.lstore 6, 2) := by decide +kernel
theorem dL_law_1271 : decode cL_law 1271 = .ok (.aload_n 2, 1) := by decide +kernel
theorem dL_law_1272 : decode cL_law 1272 = .ok (.invokevirtual 80, 3) := by decide +kernel
theorem dL_law_1275 : decode cL_law 1275 = .ok (.iload 5, 2) := by decide +kernel
theorem dL_law_1277 : decode cL_law 1277 = .ok (.if_icmp .eq 5, 3) := by decide +kernel
theorem dL_law_1280 : decode cL_law 1280 = .ok (.iconst 0, 1) := by decide +kernel
theorem dL_law_1281 : decode cL_law 1281 = .ok (.ireturn, 1) := by decide +kernel
theorem dL_law_1282 : decode cL_law 1282 = .ok (.iload 5, 2) := by decide +kernel
theorem dL_law_1284 : decode cL_law 1284 = .ok (.ifCond .ne 14, 3) := by decide +kernel
theorem dL_law_1287 : decode cL_law 1287 = .ok (.aload_n 3, 1) := by decide +kernel
theorem dL_law_1288 : decode cL_law 1288 = .ok (.iconst 0, 1) := by decide +kernel
theorem dL_law_1289 : decode cL_law 1289 = .ok (.laload, 1) := by decide +kernel
theorem dL_law_1290 : decode cL_law 1290 = .ok (.lload 6, 2) := by decide +kernel
theorem dL_law_1292 : decode cL_law 1292 = .ok (.lcmp, 1) := by decide +kernel
theorem dL_law_1293 : decode cL_law 1293 = .ok (.ifCond .eq 5, 3) := by decide +kernel
theorem dL_law_1296 : decode cL_law 1296 = .ok (.iconst 0, 1) := by decide +kernel
theorem dL_law_1297 : decode cL_law 1297 = .ok (.ireturn, 1) := by decide +kernel
theorem dL_law_1298 : decode cL_law 1298 = .ok (.goto 97, 3) := by decide +kernel
theorem dL_law_1301 : decode cL_law 1301 = .ok (.aload_n 1, 1) := by decide +kernel
theorem dL_law_1302 : decode cL_law 1302 = .ok (.invokevirtual 149, 3) := by decide +kernel
theorem dL_law_1305 : decode cL_law 1305 = .ok (.aload_n 2, 1) := by decide +kernel
theorem dL_law_1306 : decode cL_law 1306 = .ok (.invokevirtual 152, 3) := by decide +kernel
theorem dL_law_1309 : decode cL_law 1309 = .ok (.if_icmp .eq 86, 3) := by decide +kernel
theorem dL_law_1312 : decode cL_law 1312 = .ok (.iconst 0, 1) := by decide +kernel
theorem dL_law_1313 : decode cL_law 1313 = .ok (.ireturn, 1) := by decide +kernel
theorem dL_law_1314 : decode cL_law 1314 = .ok (.aload_n 1, 1) := by decide +kernel
theorem dL_law_1315 : decode cL_law 1315 = .ok (.aload_n 0, 1) := by decide +kernel
theorem dL_law_1316 : decode cL_law 1316 = .ok (.iload 4, 2) := by decide +kernel
theorem dL_law_1318 : decode cL_law 1318 = .ok (.iconst 1, 1) := by decide +kernel
theorem dL_law_1319 : decode cL_law 1319 = .ok (.iadd, 1) := by decide +kernel
theorem dL_law_1320 : decode cL_law 1320 = .ok (.iaload, 1) := by decide +kernel
theorem dL_law_1321 : decode cL_law 1321 = .ok (.aload_n 0, 1) := by decide +kernel
theorem dL_law_1322 : decode cL_law 1322 = .ok (.iload 4, 2) := by decide +kernel
theorem dL_law_1324 : decode cL_law 1324 = .ok (.iconst 2, 1) := by decide +kernel
theorem dL_law_1325 : decode cL_law 1325 = .ok (.iadd, 1) := by decide +kernel
theorem dL_law_1326 : decode cL_law 1326 = .ok (.iaload, 1) := by decide +kernel
theorem dL_law_1327 : decode cL_law 1327 = .ok (.aload_n 3, 1) := by decide +kernel
theorem dL_law_1328 : decode cL_law 1328 = .ok (.invokestatic 153, 3) := by decide +kernel
theorem dL_law_1331 : decode cL_law 1331 = .ok (.istore 5, 2) := by decide +kernel
theorem dL_law_1333 : decode cL_law 1333 = .ok (.aload_n 2, 1) := by decide +kernel
theorem dL_law_1334 : decode cL_law 1334 = .ok (.aload_n 0, 1) := by decide +kernel
theorem dL_law_1335 : decode cL_law 1335 = .ok (.iload 4, 2) := by decide +kernel
theorem dL_law_1337 : decode cL_law 1337 = .ok (.iconst 1, 1) := by decide +kernel
theorem dL_law_1338 : decode cL_law 1338 = .ok (.iadd, 1) := by decide +kernel
theorem dL_law_1339 : decode cL_law 1339 = .ok (.iaload, 1) := by decide +kernel
theorem dL_law_1340 : decode cL_law 1340 = .ok (.aload_n 0, 1) := by decide +kernel
theorem dL_law_1341 : decode cL_law 1341 = .ok (.iload 4, 2) := by decide +kernel
theorem dL_law_1343 : decode cL_law 1343 = .ok (.iconst 2, 1) := by decide +kernel
theorem dL_law_1344 : decode cL_law 1344 = .ok (.iadd, 1) := by decide +kernel
theorem dL_law_1345 : decode cL_law 1345 = .ok (.iaload, 1) := by decide +kernel
theorem dL_law_1346 : decode cL_law 1346 = .ok (.invokevirtual 155, 3) := by decide +kernel
theorem dL_law_1349 : decode cL_law 1349 = .ok (.istore 6, 2) := by decide +kernel
theorem dL_law_1351 : decode cL_law 1351 = .ok (.aload_n 2, 1) := by decide +kernel
theorem dL_law_1352 : decode cL_law 1352 = .ok (.invokevirtual 80, 3) := by decide +kernel
theorem dL_law_1355 : decode cL_law 1355 = .ok (.iload 5, 2) := by decide +kernel
theorem dL_law_1357 : decode cL_law 1357 = .ok (.if_icmp .eq 5, 3) := by decide +kernel
theorem dL_law_1360 : decode cL_law 1360 = .ok (.iconst 0, 1) := by decide +kernel
theorem dL_law_1361 : decode cL_law 1361 = .ok (.ireturn, 1) := by decide +kernel
theorem dL_law_1362 : decode cL_law 1362 = .ok (.iload 5, 2) := by decide +kernel
theorem dL_law_1364 : decode cL_law 1364 = .ok (.ifCond .ne 15, 3) := by decide +kernel
theorem dL_law_1367 : decode cL_law 1367 = .ok (.aload_n 3, 1) := by decide +kernel
theorem dL_law_1368 : decode cL_law 1368 = .ok (.iconst 0, 1) := by decide +kernel
theorem dL_law_1369 : decode cL_law 1369 = .ok (.laload, 1) := by decide +kernel
theorem dL_law_1370 : decode cL_law 1370 = .ok (.iload 6, 2) := by decide +kernel
theorem dL_law_1372 : decode cL_law 1372 = .ok (.i2l, 1) := by decide +kernel
theorem dL_law_1373 : decode cL_law 1373 = .ok (.lcmp, 1) := by decide +kernel
theorem dL_law_1374 : decode cL_law 1374 = .ok (.ifCond .eq 5, 3) := by decide +kernel
theorem dL_law_1377 : decode cL_law 1377 = .ok (.iconst 0, 1) := by decide +kernel
theorem dL_law_1378 : decode cL_law 1378 = .ok (.ireturn, 1) := by decide +kernel
theorem dL_law_1379 : decode cL_law 1379 = .ok (.goto 16, 3) := by decide +kernel
theorem dL_law_1382 : decode cL_law 1382 = .ok (.aload_n 1, 1) := by decide +kernel
theorem dL_law_1383 : decode cL_law 1383 = .ok (.invokevirtual 156, 3) := by decide +kernel
theorem dL_law_1386 : decode cL_law 1386 = .ok (.aload_n 2, 1) := by decide +kernel
theorem dL_law_1387 : decode cL_law 1387 = .ok (.invokevirtual 159, 3) := by decide +kernel
theorem dL_law_1390 : decode cL_law 1390 = .ok (.if_icmp .eq 5, 3) := by decide +kernel
theorem dL_law_1393 : decode cL_law 1393 = .ok (.iconst 0, 1) := by decide +kernel
theorem dL_law_1394 : decode cL_law 1394 = .ok (.ireturn, 1) := by decide +kernel
theorem dL_law_1395 : decode cL_law 1395 = .ok (.iinc 4 6, 3) := by decide +kernel
theorem dL_law_1398 : decode cL_law 1398 = .ok (.goto (-1375), 3) := by decide +kernel
theorem dL_law_1401 : decode cL_law 1401 = .ok (.iconst 1, 1) := by decide +kernel
theorem dL_law_1402 : decode cL_law 1402 = .ok (.ireturn, 1) := by decide +kernel
theorem dL_law_148 : decode cL_law 148 = .ok (.aload_n 1, 1) := by decide +kernel
theorem dL_law_149 : decode cL_law 149 = .ok (.aload_n 0, 1) := by decide +kernel
theorem dL_law_15 : decode cL_law 15 = .ok (.astore_n 2, 1) := by decide +kernel
theorem dL_law_150 : decode cL_law 150 = .ok (.iload 4, 2) := by decide +kernel
theorem dL_law_152 : decode cL_law 152 = .ok (.iconst 1, 1) := by decide +kernel
theorem dL_law_153 : decode cL_law 153 = .ok (.iadd, 1) := by decide +kernel
theorem dL_law_154 : decode cL_law 154 = .ok (.iaload, 1) := by decide +kernel
theorem dL_law_155 : decode cL_law 155 = .ok (.aload_n 0, 1) := by decide +kernel
theorem dL_law_156 : decode cL_law 156 = .ok (.iload 4, 2) := by decide +kernel
theorem dL_law_158 : decode cL_law 158 = .ok (.iconst 2, 1) := by decide +kernel
theorem dL_law_159 : decode cL_law 159 = .ok (.iadd, 1) := by decide +kernel
theorem dL_law_16 : decode cL_law 16 = .ok (.iconst 1, 1) := by decide +kernel
theorem dL_law_160 : decode cL_law 160 = .ok (.iaload, 1) := by decide +kernel
theorem dL_law_161 : decode cL_law 161 = .ok (.aload_n 0, 1) := by decide +kernel
theorem dL_law_162 : decode cL_law 162 = .ok (.iload 4, 2) := by decide +kernel
theorem dL_law_164 : decode cL_law 164 = .ok (.iconst 3, 1) := by decide +kernel
theorem dL_law_165 : decode cL_law 165 = .ok (.iadd, 1) := by decide +kernel
theorem dL_law_166 : decode cL_law 166 = .ok (.iaload, 1) := by decide +kernel
theorem dL_law_167 : decode cL_law 167 = .ok (.aload_n 0, 1) := by decide +kernel
theorem dL_law_168 : decode cL_law 168 = .ok (.iload 4, 2) := by decide +kernel
theorem dL_law_17 : decode cL_law 17 = .ok (.newarray .long, 2) := by decide +kernel
theorem dL_law_170 : decode cL_law 170 = .ok (.iconst 4, 1) := by decide +kernel
theorem dL_law_171 : decode cL_law 171 = .ok (.iadd, 1) := by decide +kernel
theorem dL_law_172 : decode cL_law 172 = .ok (.iaload, 1) := by decide +kernel
theorem dL_law_173 : decode cL_law 173 = .ok (.aload_n 0, 1) := by decide +kernel
theorem dL_law_174 : decode cL_law 174 = .ok (.iload 4, 2) := by decide +kernel
theorem dL_law_176 : decode cL_law 176 = .ok (.iconst 5, 1) := by decide +kernel
theorem dL_law_177 : decode cL_law 177 = .ok (.iadd, 1) := by decide +kernel
theorem dL_law_178 : decode cL_law 178 = .ok (.iaload, 1) := by decide +kernel
theorem dL_law_179 : decode cL_law 179 = .ok (.aload_n 3, 1) := by decide +kernel
theorem dL_law_180 : decode cL_law 180 = .ok (.invokestatic 74, 3) := by decide +kernel
theorem dL_law_183 : decode cL_law 183 = .ok (.istore 5, 2) := by decide +kernel
theorem dL_law_185 : decode cL_law 185 = .ok (.aload_n 2, 1) := by decide +kernel
theorem dL_law_186 : decode cL_law 186 = .ok (.aload_n 0, 1) := by decide +kernel
theorem dL_law_187 : decode cL_law 187 = .ok (.iload 4, 2) := by decide +kernel
theorem dL_law_189 : decode cL_law 189 = .ok (.iconst 1, 1) := by decide +kernel
theorem dL_law_19 : decode cL_law 19 = .ok (.astore_n 3, 1) := by decide +kernel
theorem dL_law_190 : decode cL_law 190 = .ok (.iadd, 1) := by decide +kernel
theorem dL_law_191 : decode cL_law 191 = .ok (.iaload, 1) := by decide +kernel
theorem dL_law_192 : decode cL_law 192 = .ok (.aload_n 0, 1) := by decide +kernel
theorem dL_law_193 : decode cL_law 193 = .ok (.iload 4, 2) := by decide +kernel
theorem dL_law_195 : decode cL_law 195 = .ok (.iconst 2, 1) := by decide +kernel
theorem dL_law_196 : decode cL_law 196 = .ok (.iadd, 1) := by decide +kernel
theorem dL_law_197 : decode cL_law 197 = .ok (.iaload, 1) := by decide +kernel
theorem dL_law_198 : decode cL_law 198 = .ok (.aload_n 0, 1) := by decide +kernel
theorem dL_law_199 : decode cL_law 199 = .ok (.iload 4, 2) := by decide +kernel
theorem dL_law_20 : decode cL_law 20 = .ok (.iconst 0, 1) := by decide +kernel
theorem dL_law_201 : decode cL_law 201 = .ok (.iconst 3, 1) := by decide +kernel
theorem dL_law_202 : decode cL_law 202 = .ok (.iadd, 1) := by decide +kernel
theorem dL_law_203 : decode cL_law 203 = .ok (.iaload, 1) := by decide +kernel
theorem dL_law_204 : decode cL_law 204 = .ok (.aload_n 0, 1) := by decide +kernel
theorem dL_law_205 : decode cL_law 205 = .ok (.iload 4, 2) := by decide +kernel
theorem dL_law_207 : decode cL_law 207 = .ok (.iconst 4, 1) := by decide +kernel
theorem dL_law_208 : decode cL_law 208 = .ok (.iadd, 1) := by decide +kernel
theorem dL_law_209 : decode cL_law 209 = .ok (.iaload, 1) := by decide +kernel
theorem dL_law_21 : decode cL_law 21 = .ok (.istore 4, 2) := by decide +kernel
theorem dL_law_210 : decode cL_law 210 = .ok (.aload_n 0, 1) := by decide +kernel
theorem dL_law_211 : decode cL_law 211 = .ok (.iload 4, 2) := by decide +kernel
theorem dL_law_213 : decode cL_law 213 = .ok (.iconst 5, 1) := by decide +kernel
theorem dL_law_214 : decode cL_law 214 = .ok (.iadd, 1) := by decide +kernel
theorem dL_law_215 : decode cL_law 215 = .ok (.iaload, 1) := by decide +kernel
theorem dL_law_216 : decode cL_law 216 = .ok (.invokevirtual 79, 3) := by decide +kernel
theorem dL_law_219 : decode cL_law 219 = .ok (.istore 6, 2) := by decide +kernel
theorem dL_law_221 : decode cL_law 221 = .ok (.aload_n 2, 1) := by decide +kernel
theorem dL_law_222 : decode cL_law 222 = .ok (.invokevirtual 80, 3) := by decide +kernel
theorem dL_law_225 : decode cL_law 225 = .ok (.iload 5, 2) := by decide +kernel
theorem dL_law_227 : decode cL_law 227 = .ok (.if_icmp .eq 5, 3) := by decide +kernel
theorem dL_law_23 : decode cL_law 23 = .ok (.iload 4, 2) := by decide +kernel
theorem dL_law_230 : decode cL_law 230 = .ok (.iconst 0, 1) := by decide +kernel
theorem dL_law_231 : decode cL_law 231 = .ok (.ireturn, 1) := by decide +kernel
theorem dL_law_232 : decode cL_law 232 = .ok (.iload 5, 2) := by decide +kernel
theorem dL_law_234 : decode cL_law 234 = .ok (.ifCond .ne 15, 3) := by decide +kernel
theorem dL_law_237 : decode cL_law 237 = .ok (.aload_n 3, 1) := by decide +kernel
theorem dL_law_238 : decode cL_law 238 = .ok (.iconst 0, 1) := by decide +kernel
theorem dL_law_239 : decode cL_law 239 = .ok (.laload, 1) := by decide +kernel
theorem dL_law_240 : decode cL_law 240 = .ok (.iload 6, 2) := by decide +kernel
theorem dL_law_242 : decode cL_law 242 = .ok (.i2l, 1) := by decide +kernel
theorem dL_law_243 : decode cL_law 243 = .ok (.lcmp, 1) := by decide +kernel
theorem dL_law_244 : decode cL_law 244 = .ok (.ifCond .eq 5, 3) := by decide +kernel
theorem dL_law_247 : decode cL_law 247 = .ok (.iconst 0, 1) := by decide +kernel
theorem dL_law_248 : decode cL_law 248 = .ok (.ireturn, 1) := by decide +kernel
theorem dL_law_249 : decode cL_law 249 = .ok (.goto 1146, 3) := by decide +kernel
theorem dL_law_25 : decode cL_law 25 = .ok (.aload_n 0, 1) := by decide +kernel
theorem dL_law_252 : decode cL_law 252 = .ok (.aload_n 1, 1) := by decide +kernel
theorem dL_law_253 : decode cL_law 253 = .ok (.aload_n 0, 1) := by decide +kernel
theorem dL_law_254 : decode cL_law 254 = .ok (.iload 4, 2) := by decide +kernel
theorem dL_law_256 : decode cL_law 256 = .ok (.iconst 1, 1) := by decide +kernel
theorem dL_law_257 : decode cL_law 257 = .ok (.iadd, 1) := by decide +kernel
theorem dL_law_258 : decode cL_law 258 = .ok (.iaload, 1) := by decide +kernel
theorem dL_law_259 : decode cL_law 259 = .ok (.aload_n 0, 1) := by decide +kernel
theorem dL_law_26 : decode cL_law 26 = .ok (.arraylength, 1) := by decide +kernel
theorem dL_law_260 : decode cL_law 260 = .ok (.iload 4, 2) := by decide +kernel
theorem dL_law_262 : decode cL_law 262 = .ok (.iconst 2, 1) := by decide +kernel
theorem dL_law_263 : decode cL_law 263 = .ok (.iadd, 1) := by decide +kernel
theorem dL_law_264 : decode cL_law 264 = .ok (.iaload, 1) := by decide +kernel
theorem dL_law_265 : decode cL_law 265 = .ok (.aload_n 0, 1) := by decide +kernel
theorem dL_law_266 : decode cL_law 266 = .ok (.iload 4, 2) := by decide +kernel
theorem dL_law_268 : decode cL_law 268 = .ok (.iconst 3, 1) := by decide +kernel
theorem dL_law_269 : decode cL_law 269 = .ok (.iadd, 1) := by decide +kernel
theorem dL_law_27 : decode cL_law 27 = .ok (.bipush 6, 2) := by decide +kernel
theorem dL_law_270 : decode cL_law 270 = .ok (.iaload, 1) := by decide +kernel
theorem dL_law_271 : decode cL_law 271 = .ok (.aload_n 0, 1) := by decide +kernel
theorem dL_law_272 : decode cL_law 272 = .ok (.iload 4, 2) := by decide +kernel
theorem dL_law_274 : decode cL_law 274 = .ok (.iconst 4, 1) := by decide +kernel
theorem dL_law_275 : decode cL_law 275 = .ok (.iadd, 1) := by decide +kernel
theorem dL_law_276 : decode cL_law 276 = .ok (.iaload, 1) := by decide +kernel
theorem dL_law_277 : decode cL_law 277 = .ok (.aload_n 0, 1) := by decide +kernel
theorem dL_law_278 : decode cL_law 278 = .ok (.iload 4, 2) := by decide +kernel
theorem dL_law_280 : decode cL_law 280 = .ok (.iconst 5, 1) := by decide +kernel
theorem dL_law_281 : decode cL_law 281 = .ok (.iadd, 1) := by decide +kernel
theorem dL_law_282 : decode cL_law 282 = .ok (.iaload, 1) := by decide +kernel
theorem dL_law_283 : decode cL_law 283 = .ok (.aload_n 3, 1) := by decide +kernel
theorem dL_law_284 : decode cL_law 284 = .ok (.invokestatic 84, 3) := by decide +kernel
theorem dL_law_287 : decode cL_law 287 = .ok (.istore 5, 2) := by decide +kernel
theorem dL_law_289 : decode cL_law 289 = .ok (.aload_n 2, 1) := by decide +kernel
theorem dL_law_29 : decode cL_law 29 = .ok (.isub, 1) := by decide +kernel
theorem dL_law_290 : decode cL_law 290 = .ok (.aload_n 0, 1) := by decide +kernel
theorem dL_law_291 : decode cL_law 291 = .ok (.iload 4, 2) := by decide +kernel
theorem dL_law_293 : decode cL_law 293 = .ok (.iconst 1, 1) := by decide +kernel
theorem dL_law_294 : decode cL_law 294 = .ok (.iadd, 1) := by decide +kernel
theorem dL_law_295 : decode cL_law 295 = .ok (.iaload, 1) := by decide +kernel
theorem dL_law_296 : decode cL_law 296 = .ok (.aload_n 0, 1) := by decide +kernel
theorem dL_law_297 : decode cL_law 297 = .ok (.iload 4, 2) := by decide +kernel
theorem dL_law_299 : decode cL_law 299 = .ok (.iconst 2, 1) := by decide +kernel
theorem dL_law_3 : decode cL_law 3 = .ok (.dup, 1) := by decide +kernel
theorem dL_law_30 : decode cL_law 30 = .ok (.if_icmp .gt 1371, 3) := by decide +kernel
theorem dL_law_300 : decode cL_law 300 = .ok (.iadd, 1) := by decide +kernel
theorem dL_law_301 : decode cL_law 301 = .ok (.iaload, 1) := by decide +kernel
theorem dL_law_302 : decode cL_law 302 = .ok (.aload_n 0, 1) := by decide +kernel
theorem dL_law_303 : decode cL_law 303 = .ok (.iload 4, 2) := by decide +kernel
theorem dL_law_305 : decode cL_law 305 = .ok (.iconst 3, 1) := by decide +kernel
theorem dL_law_306 : decode cL_law 306 = .ok (.iadd, 1) := by decide +kernel
theorem dL_law_307 : decode cL_law 307 = .ok (.iaload, 1) := by decide +kernel
theorem dL_law_308 : decode cL_law 308 = .ok (.aload_n 0, 1) := by decide +kernel
theorem dL_law_309 : decode cL_law 309 = .ok (.iload 4, 2) := by decide +kernel
theorem dL_law_311 : decode cL_law 311 = .ok (.iconst 4, 1) := by decide +kernel
theorem dL_law_312 : decode cL_law 312 = .ok (.iadd, 1) := by decide +kernel
theorem dL_law_313 : decode cL_law 313 = .ok (.iaload, 1) := by decide +kernel
theorem dL_law_314 : decode cL_law 314 = .ok (.aload_n 0, 1) := by decide +kernel
theorem dL_law_315 : decode cL_law 315 = .ok (.iload 4, 2) := by decide +kernel
theorem dL_law_317 : decode cL_law 317 = .ok (.iconst 5, 1) := by decide +kernel
theorem dL_law_318 : decode cL_law 318 = .ok (.iadd, 1) := by decide +kernel
theorem dL_law_319 : decode cL_law 319 = .ok (.iaload, 1) := by decide +kernel
theorem dL_law_320 : decode cL_law 320 = .ok (.invokevirtual 86, 3) := by decide +kernel
theorem dL_law_323 : decode cL_law 323 = .ok (.istore 6, 2) := by decide +kernel
theorem dL_law_325 : decode cL_law 325 = .ok (.aload_n 2, 1) := by decide +kernel
theorem dL_law_326 : decode cL_law 326 = .ok (.invokevirtual 80, 3) := by decide +kernel
theorem dL_law_329 : decode cL_law 329 = .ok (.iload 5, 2) := by decide +kernel
theorem dL_law_33 : decode cL_law 33 = .ok (.aload_n 0, 1) := by decide +kernel
theorem dL_law_331 : decode cL_law 331 = .ok (.if_icmp .eq 5, 3) := by decide +kernel
theorem dL_law_334 : decode cL_law 334 = .ok (.iconst 0, 1) := by decide +kernel
theorem dL_law_335 : decode cL_law 335 = .ok (.ireturn, 1) := by decide +kernel
theorem dL_law_336 : decode cL_law 336 = .ok (.iload 5, 2) := by decide +kernel
theorem dL_law_338 : decode cL_law 338 = .ok (.ifCond .ne 15, 3) := by decide +kernel
theorem dL_law_34 : decode cL_law 34 = .ok (.iload 4, 2) := by decide +kernel
theorem dL_law_341 : decode cL_law 341 = .ok (.aload_n 3, 1) := by decide +kernel
theorem dL_law_342 : decode cL_law 342 = .ok (.iconst 0, 1) := by decide +kernel
theorem dL_law_343 : decode cL_law 343 = .ok (.laload, 1) := by decide +kernel
theorem dL_law_344 : decode cL_law 344 = .ok (.iload 6, 2) := by decide +kernel
theorem dL_law_346 : decode cL_law 346 = .ok (.i2l, 1) := by decide +kernel
theorem dL_law_347 : decode cL_law 347 = .ok (.lcmp, 1) := by decide +kernel
theorem dL_law_348 : decode cL_law 348 = .ok (.ifCond .eq 5, 3) := by decide +kernel
theorem dL_law_351 : decode cL_law 351 = .ok (.iconst 0, 1) := by decide +kernel
theorem dL_law_352 : decode cL_law 352 = .ok (.ireturn, 1) := by decide +kernel
theorem dL_law_353 : decode cL_law 353 = .ok (.goto 1042, 3) := by decide +kernel
theorem dL_law_356 : decode cL_law 356 = .ok (.aload_n 1, 1) := by decide +kernel
theorem dL_law_357 : decode cL_law 357 = .ok (.aload_n 0, 1) := by decide +kernel
theorem dL_law_358 : decode cL_law 358 = .ok (.iload 4, 2) := by decide +kernel
theorem dL_law_36 : decode cL_law 36 = .ok (.iaload, 1) := by decide +kernel
theorem dL_law_360 : decode cL_law 360 = .ok (.iconst 1, 1) := by decide +kernel
theorem dL_law_361 : decode cL_law 361 = .ok (.iadd, 1) := by decide +kernel
theorem dL_law_362 : decode cL_law 362 = .ok (.iaload, 1) := by decide +kernel
theorem dL_law_363 : decode cL_law 363 = .ok (.aload_n 0, 1) := by decide +kernel
theorem dL_law_364 : decode cL_law 364 = .ok (.iload 4, 2) := by decide +kernel
theorem dL_law_366 : decode cL_law 366 = .ok (.iconst 2, 1) := by decide +kernel
theorem dL_law_367 : decode cL_law 367 = .ok (.iadd, 1) := by decide +kernel
theorem dL_law_368 : decode cL_law 368 = .ok (.iaload, 1) := by decide +kernel
theorem dL_law_369 : decode cL_law 369 = .ok (.aload_n 3, 1) := by decide +kernel
theorem dL_law_37 : decode cL_law 37 = .ok (.bipush 31, 2) := by decide +kernel
theorem dL_law_370 : decode cL_law 370 = .ok (.invokestatic 87, 3) := by decide +kernel
theorem dL_law_373 : decode cL_law 373 = .ok (.istore 5, 2) := by decide +kernel
theorem dL_law_375 : decode cL_law 375 = .ok (.aload_n 2, 1) := by decide +kernel
theorem dL_law_376 : decode cL_law 376 = .ok (.aload_n 0, 1) := by decide +kernel
theorem dL_law_377 : decode cL_law 377 = .ok (.iload 4, 2) := by decide +kernel
theorem dL_law_379 : decode cL_law 379 = .ok (.iconst 1, 1) := by decide +kernel
theorem dL_law_380 : decode cL_law 380 = .ok (.iadd, 1) := by decide +kernel
theorem dL_law_381 : decode cL_law 381 = .ok (.iaload, 1) := by decide +kernel
theorem dL_law_382 : decode cL_law 382 = .ok (.aload_n 0, 1) := by decide +kernel
theorem dL_law_383 : decode cL_law 383 = .ok (.iload 4, 2) := by decide +kernel
theorem dL_law_385 : decode cL_law 385 = .ok (.iconst 2, 1) := by decide +kernel
theorem dL_law_386 : decode cL_law 386 = .ok (.iadd, 1) := by decide +kernel
theorem dL_law_387 : decode cL_law 387 = .ok (.iaload, 1) := by decide +kernel
theorem dL_law_388 : decode cL_law 388 = .ok (.invokevirtual 90, 3) := by decide +kernel
theorem dL_law_39 : decode cL_law 39 = .ok (.iand, 1) := by decide +kernel
theorem dL_law_391 : decode cL_law 391 = .ok (.istore 6, 2) := by decide +kernel
theorem dL_law_393 : decode cL_law 393 = .ok (.aload_n 2, 1) := by decide +kernel
theorem dL_law_394 : decode cL_law 394 = .ok (.invokevirtual 80, 3) := by decide +kernel
theorem dL_law_397 : decode cL_law 397 = .ok (.iload 5, 2) := by decide +kernel
theorem dL_law_399 : decode cL_law 399 = .ok (.if_icmp .eq 5, 3) := by decide +kernel
theorem dL_law_4 : decode cL_law 4 = .ok (.invokespecial 70, 3) := by decide +kernel
theorem dL_law_40 : decode cL_law 40 = .ok (.tableswitch 1355 0 22 #[108, 212, 316, 384, 471, 534, 602, 615, 628, 703, 728, 753, 809, 822, 878, 946, 1014, 1070, 1126, 1194, 1261, 1274, 1342], 108) := by decide +kernel
theorem dL_law_402 : decode cL_law 402 = .ok (.iconst 0, 1) := by decide +kernel
theorem dL_law_403 : decode cL_law 403 = .ok (.ireturn, 1) := by decide +kernel
theorem dL_law_404 : decode cL_law 404 = .ok (.iload 5, 2) := by decide +kernel
theorem dL_law_406 : decode cL_law 406 = .ok (.ifCond .ne 15, 3) := by decide +kernel
theorem dL_law_409 : decode cL_law 409 = .ok (.aload_n 3, 1) := by decide +kernel
theorem dL_law_410 : decode cL_law 410 = .ok (.iconst 0, 1) := by decide +kernel
theorem dL_law_411 : decode cL_law 411 = .ok (.laload, 1) := by decide +kernel
theorem dL_law_412 : decode cL_law 412 = .ok (.iload 6, 2) := by decide +kernel
theorem dL_law_414 : decode cL_law 414 = .ok (.i2l, 1) := by decide +kernel
theorem dL_law_415 : decode cL_law 415 = .ok (.lcmp, 1) := by decide +kernel
theorem dL_law_416 : decode cL_law 416 = .ok (.ifCond .eq 5, 3) := by decide +kernel
theorem dL_law_419 : decode cL_law 419 = .ok (.iconst 0, 1) := by decide +kernel
theorem dL_law_420 : decode cL_law 420 = .ok (.ireturn, 1) := by decide +kernel
theorem dL_law_421 : decode cL_law 421 = .ok (.goto 974, 3) := by decide +kernel
theorem dL_law_424 : decode cL_law 424 = .ok (.aload_n 1, 1) := by decide +kernel
theorem dL_law_425 : decode cL_law 425 = .ok (.aload_n 0, 1) := by decide +kernel
theorem dL_law_426 : decode cL_law 426 = .ok (.iload 4, 2) := by decide +kernel
theorem dL_law_428 : decode cL_law 428 = .ok (.iconst 1, 1) := by decide +kernel
theorem dL_law_429 : decode cL_law 429 = .ok (.iadd, 1) := by decide +kernel
theorem dL_law_430 : decode cL_law 430 = .ok (.iaload, 1) := by decide +kernel
theorem dL_law_431 : decode cL_law 431 = .ok (.aload_n 0, 1) := by decide +kernel
theorem dL_law_432 : decode cL_law 432 = .ok (.iload 4, 2) := by decide +kernel
theorem dL_law_434 : decode cL_law 434 = .ok (.iconst 2, 1) := by decide +kernel
theorem dL_law_435 : decode cL_law 435 = .ok (.iadd, 1) := by decide +kernel
theorem dL_law_436 : decode cL_law 436 = .ok (.iaload, 1) := by decide +kernel
theorem dL_law_437 : decode cL_law 437 = .ok (.aload_n 0, 1) := by decide +kernel
theorem dL_law_438 : decode cL_law 438 = .ok (.iload 4, 2) := by decide +kernel
theorem dL_law_440 : decode cL_law 440 = .ok (.iconst 3, 1) := by decide +kernel
theorem dL_law_441 : decode cL_law 441 = .ok (.iadd, 1) := by decide +kernel
theorem dL_law_442 : decode cL_law 442 = .ok (.iaload, 1) := by decide +kernel
theorem dL_law_443 : decode cL_law 443 = .ok (.aload_n 3, 1) := by decide +kernel
theorem dL_law_444 : decode cL_law 444 = .ok (.invokestatic 91, 3) := by decide +kernel
theorem dL_law_447 : decode cL_law 447 = .ok (.istore 5, 2) := by decide +kernel
theorem dL_law_449 : decode cL_law 449 = .ok (.aload_n 2, 1) := by decide +kernel
theorem dL_law_450 : decode cL_law 450 = .ok (.aload_n 0, 1) := by decide +kernel
theorem dL_law_451 : decode cL_law 451 = .ok (.iload 4, 2) := by decide +kernel
theorem dL_law_453 : decode cL_law 453 = .ok (.iconst 1, 1) := by decide +kernel
theorem dL_law_454 : decode cL_law 454 = .ok (.iadd, 1) := by decide +kernel
theorem dL_law_455 : decode cL_law 455 = .ok (.iaload, 1) := by decide +kernel
theorem dL_law_456 : decode cL_law 456 = .ok (.aload_n 0, 1) := by decide +kernel
theorem dL_law_457 : decode cL_law 457 = .ok (.iload 4, 2) := by decide +kernel
theorem dL_law_459 : decode cL_law 459 = .ok (.iconst 2, 1) := by decide +kernel
theorem dL_law_460 : decode cL_law 460 = .ok (.iadd, 1) := by decide +kernel
theorem dL_law_461 : decode cL_law 461 = .ok (.iaload, 1) := by decide +kernel
theorem dL_law_462 : decode cL_law 462 = .ok (.aload_n 0, 1) := by decide +kernel
theorem dL_law_463 : decode cL_law 463 = .ok (.iload 4, 2) := by decide +kernel
theorem dL_law_465 : decode cL_law 465 = .ok (.iconst 3, 1) := by decide +kernel
theorem dL_law_466 : decode cL_law 466 = .ok (.iadd, 1) := by decide +kernel
theorem dL_law_467 : decode cL_law 467 = .ok (.iaload, 1) := by decide +kernel
theorem dL_law_468 : decode cL_law 468 = .ok (.invokevirtual 94, 3) := by decide +kernel
theorem dL_law_471 : decode cL_law 471 = .ok (.istore 6, 2) := by decide +kernel
theorem dL_law_473 : decode cL_law 473 = .ok (.aload_n 2, 1) := by decide +kernel
theorem dL_law_474 : decode cL_law 474 = .ok (.invokevirtual 80, 3) := by decide +kernel
theorem dL_law_477 : decode cL_law 477 = .ok (.iload 5, 2) := by decide +kernel
theorem dL_law_479 : decode cL_law 479 = .ok (.if_icmp .eq 5, 3) := by decide +kernel
theorem dL_law_482 : decode cL_law 482 = .ok (.iconst 0, 1) := by decide +kernel
theorem dL_law_483 : decode cL_law 483 = .ok (.ireturn, 1) := by decide +kernel
theorem dL_law_484 : decode cL_law 484 = .ok (.iload 5, 2) := by decide +kernel
theorem dL_law_486 : decode cL_law 486 = .ok (.ifCond .ne 22, 3) := by decide +kernel
theorem dL_law_489 : decode cL_law 489 = .ok (.aload_n 3, 1) := by decide +kernel
theorem dL_law_490 : decode cL_law 490 = .ok (.iconst 0, 1) := by decide +kernel
theorem dL_law_491 : decode cL_law 491 = .ok (.laload, 1) := by decide +kernel
theorem dL_law_492 : decode cL_law 492 = .ok (.iload 6, 2) := by decide +kernel
theorem dL_law_494 : decode cL_law 494 = .ok (.ifCond .eq 7, 3) := by decide +kernel
theorem dL_law_497 : decode cL_law 497 = .ok (.lconst 1, 1) := by decide +kernel
theorem dL_law_498 : decode cL_law 498 = .ok (.goto 4, 3) := by decide +kernel
theorem dL_law_501 : decode cL_law 501 = .ok (.lconst 0, 1) := by decide +kernel
theorem dL_law_502 : decode cL_law 502 = .ok (.lcmp, 1) := by decide +kernel
theorem dL_law_503 : decode cL_law 503 = .ok (.ifCond .eq 5, 3) := by decide +kernel
theorem dL_law_506 : decode cL_law 506 = .ok (.iconst 0, 1) := by decide +kernel
theorem dL_law_507 : decode cL_law 507 = .ok (.ireturn, 1) := by decide +kernel
theorem dL_law_508 : decode cL_law 508 = .ok (.goto 887, 3) := by decide +kernel
theorem dL_law_511 : decode cL_law 511 = .ok (.aload_n 1, 1) := by decide +kernel
theorem dL_law_512 : decode cL_law 512 = .ok (.aload_n 0, 1) := by decide +kernel
theorem dL_law_513 : decode cL_law 513 = .ok (.iload 4, 2) := by decide +kernel
theorem dL_law_515 : decode cL_law 515 = .ok (.iconst 1, 1) := by decide +kernel
theorem dL_law_516 : decode cL_law 516 = .ok (.iadd, 1) := by decide +kernel
theorem dL_law_517 : decode cL_law 517 = .ok (.iaload, 1) := by decide +kernel
theorem dL_law_518 : decode cL_law 518 = .ok (.aload_n 3, 1) := by decide +kernel
theorem dL_law_519 : decode cL_law 519 = .ok (.invokestatic 95, 3) := by decide +kernel
theorem dL_law_522 : decode cL_law 522 = .ok (.istore 5, 2) := by decide +kernel
theorem dL_law_524 : decode cL_law 524 = .ok (.aload_n 2, 1) := by decide +kernel
theorem dL_law_525 : decode cL_law 525 = .ok (.aload_n 0, 1) := by decide +kernel
theorem dL_law_526 : decode cL_law 526 = .ok (.iload 4, 2) := by decide +kernel
theorem dL_law_528 : decode cL_law 528 = .ok (.iconst 1, 1) := by decide +kernel
theorem dL_law_529 : decode cL_law 529 = .ok (.iadd, 1) := by decide +kernel
theorem dL_law_530 : decode cL_law 530 = .ok (.iaload, 1) := by decide +kernel
theorem dL_law_531 : decode cL_law 531 = .ok (.invokevirtual 98, 3) := by decide +kernel
theorem dL_law_534 : decode cL_law 534 = .ok (.istore 6, 2) := by decide +kernel
theorem dL_law_536 : decode cL_law 536 = .ok (.aload_n 2, 1) := by decide +kernel
theorem dL_law_537 : decode cL_law 537 = .ok (.invokevirtual 80, 3) := by decide +kernel
theorem dL_law_540 : decode cL_law 540 = .ok (.iload 5, 2) := by decide +kernel
theorem dL_law_542 : decode cL_law 542 = .ok (.if_icmp .eq 5, 3) := by decide +kernel
theorem dL_law_545 : decode cL_law 545 = .ok (.iconst 0, 1) := by decide +kernel
theorem dL_law_546 : decode cL_law 546 = .ok (.ireturn, 1) := by decide +kernel
theorem dL_law_547 : decode cL_law 547 = .ok (.iload 5, 2) := by decide +kernel
theorem dL_law_549 : decode cL_law 549 = .ok (.ifCond .ne 22, 3) := by decide +kernel
theorem dL_law_552 : decode cL_law 552 = .ok (.aload_n 3, 1) := by decide +kernel
theorem dL_law_553 : decode cL_law 553 = .ok (.iconst 0, 1) := by decide +kernel
theorem dL_law_554 : decode cL_law 554 = .ok (.laload, 1) := by decide +kernel
theorem dL_law_555 : decode cL_law 555 = .ok (.iload 6, 2) := by decide +kernel
theorem dL_law_557 : decode cL_law 557 = .ok (.ifCond .eq 7, 3) := by decide +kernel
theorem dL_law_560 : decode cL_law 560 = .ok (.lconst 1, 1) := by decide +kernel
theorem dL_law_561 : decode cL_law 561 = .ok (.goto 4, 3) := by decide +kernel
theorem dL_law_564 : decode cL_law 564 = .ok (.lconst 0, 1) := by decide +kernel
theorem dL_law_565 : decode cL_law 565 = .ok (.lcmp, 1) := by decide +kernel
theorem dL_law_566 : decode cL_law 566 = .ok (.ifCond .eq 5, 3) := by decide +kernel
theorem dL_law_569 : decode cL_law 569 = .ok (.iconst 0, 1) := by decide +kernel
theorem dL_law_570 : decode cL_law 570 = .ok (.ireturn, 1) := by decide +kernel
theorem dL_law_571 : decode cL_law 571 = .ok (.goto 824, 3) := by decide +kernel
theorem dL_law_574 : decode cL_law 574 = .ok (.aload_n 1, 1) := by decide +kernel
theorem dL_law_575 : decode cL_law 575 = .ok (.aload_n 0, 1) := by decide +kernel
theorem dL_law_576 : decode cL_law 576 = .ok (.iload 4, 2) := by decide +kernel
theorem dL_law_578 : decode cL_law 578 = .ok (.iconst 1, 1) := by decide +kernel
theorem dL_law_579 : decode cL_law 579 = .ok (.iadd, 1) := by decide +kernel
theorem dL_law_580 : decode cL_law 580 = .ok (.iaload, 1) := by decide +kernel
theorem dL_law_581 : decode cL_law 581 = .ok (.aload_n 0, 1) := by decide +kernel
theorem dL_law_582 : decode cL_law 582 = .ok (.iload 4, 2) := by decide +kernel
theorem dL_law_584 : decode cL_law 584 = .ok (.iconst 2, 1) := by decide +kernel
theorem dL_law_585 : decode cL_law 585 = .ok (.iadd, 1) := by decide +kernel
theorem dL_law_586 : decode cL_law 586 = .ok (.iaload, 1) := by decide +kernel
theorem dL_law_587 : decode cL_law 587 = .ok (.aload_n 3, 1) := by decide +kernel
theorem dL_law_588 : decode cL_law 588 = .ok (.invokestatic 99, 3) := by decide +kernel
theorem dL_law_591 : decode cL_law 591 = .ok (.istore 5, 2) := by decide +kernel
theorem dL_law_593 : decode cL_law 593 = .ok (.aload_n 2, 1) := by decide +kernel
theorem dL_law_594 : decode cL_law 594 = .ok (.aload_n 0, 1) := by decide +kernel
theorem dL_law_595 : decode cL_law 595 = .ok (.iload 4, 2) := by decide +kernel
theorem dL_law_597 : decode cL_law 597 = .ok (.iconst 1, 1) := by decide +kernel
theorem dL_law_598 : decode cL_law 598 = .ok (.iadd, 1) := by decide +kernel
theorem dL_law_599 : decode cL_law 599 = .ok (.iaload, 1) := by decide +kernel
theorem dL_law_600 : decode cL_law 600 = .ok (.aload_n 0, 1) := by decide +kernel
theorem dL_law_601 : decode cL_law 601 = .ok (.iload 4, 2) := by decide +kernel
theorem dL_law_603 : decode cL_law 603 = .ok (.iconst 2, 1) := by decide +kernel
theorem dL_law_604 : decode cL_law 604 = .ok (.iadd, 1) := by decide +kernel
theorem dL_law_605 : decode cL_law 605 = .ok (.iaload, 1) := by decide +kernel
theorem dL_law_606 : decode cL_law 606 = .ok (.invokevirtual 101, 3) := by decide +kernel
theorem dL_law_609 : decode cL_law 609 = .ok (.istore 6, 2) := by decide +kernel
theorem dL_law_611 : decode cL_law 611 = .ok (.aload_n 2, 1) := by decide +kernel
theorem dL_law_612 : decode cL_law 612 = .ok (.invokevirtual 80, 3) := by decide +kernel
theorem dL_law_615 : decode cL_law 615 = .ok (.iload 5, 2) := by decide +kernel
theorem dL_law_617 : decode cL_law 617 = .ok (.if_icmp .eq 5, 3) := by decide +kernel
theorem dL_law_620 : decode cL_law 620 = .ok (.iconst 0, 1) := by decide +kernel
theorem dL_law_621 : decode cL_law 621 = .ok (.ireturn, 1) := by decide +kernel
theorem dL_law_622 : decode cL_law 622 = .ok (.iload 5, 2) := by decide +kernel
theorem dL_law_624 : decode cL_law 624 = .ok (.ifCond .ne 15, 3) := by decide +kernel
theorem dL_law_627 : decode cL_law 627 = .ok (.aload_n 3, 1) := by decide +kernel
theorem dL_law_628 : decode cL_law 628 = .ok (.iconst 0, 1) := by decide +kernel
theorem dL_law_629 : decode cL_law 629 = .ok (.laload, 1) := by decide +kernel
theorem dL_law_630 : decode cL_law 630 = .ok (.iload 6, 2) := by decide +kernel
theorem dL_law_632 : decode cL_law 632 = .ok (.i2l, 1) := by decide +kernel
theorem dL_law_633 : decode cL_law 633 = .ok (.lcmp, 1) := by decide +kernel
theorem dL_law_634 : decode cL_law 634 = .ok (.ifCond .eq 5, 3) := by decide +kernel
theorem dL_law_637 : decode cL_law 637 = .ok (.iconst 0, 1) := by decide +kernel
theorem dL_law_638 : decode cL_law 638 = .ok (.ireturn, 1) := by decide +kernel
theorem dL_law_639 : decode cL_law 639 = .ok (.goto 756, 3) := by decide +kernel
theorem dL_law_642 : decode cL_law 642 = .ok (.aload_n 1, 1) := by decide +kernel
theorem dL_law_643 : decode cL_law 643 = .ok (.invokevirtual 102, 3) := by decide +kernel
theorem dL_law_646 : decode cL_law 646 = .ok (.aload_n 2, 1) := by decide +kernel
theorem dL_law_647 : decode cL_law 647 = .ok (.invokevirtual 105, 3) := by decide +kernel
theorem dL_law_650 : decode cL_law 650 = .ok (.if_icmp .eq 745, 3) := by decide +kernel
theorem dL_law_653 : decode cL_law 653 = .ok (.iconst 0, 1) := by decide +kernel
theorem dL_law_654 : decode cL_law 654 = .ok (.ireturn, 1) := by decide +kernel
theorem dL_law_655 : decode cL_law 655 = .ok (.aload_n 1, 1) := by decide +kernel
theorem dL_law_656 : decode cL_law 656 = .ok (.invokevirtual 106, 3) := by decide +kernel
theorem dL_law_659 : decode cL_law 659 = .ok (.aload_n 2, 1) := by decide +kernel
theorem dL_law_660 : decode cL_law 660 = .ok (.invokevirtual 109, 3) := by decide +kernel
theorem dL_law_663 : decode cL_law 663 = .ok (.if_icmp .eq 732, 3) := by decide +kernel
theorem dL_law_666 : decode cL_law 666 = .ok (.iconst 0, 1) := by decide +kernel
theorem dL_law_667 : decode cL_law 667 = .ok (.ireturn, 1) := by decide +kernel
theorem dL_law_668 : decode cL_law 668 = .ok (.aload_n 1, 1) := by decide +kernel
theorem dL_law_669 : decode cL_law 669 = .ok (.aload_n 0, 1) := by decide +kernel
theorem dL_law_670 : decode cL_law 670 = .ok (.iload 4, 2) := by decide +kernel
theorem dL_law_672 : decode cL_law 672 = .ok (.iconst 1, 1) := by decide +kernel
theorem dL_law_673 : decode cL_law 673 = .ok (.iadd, 1) := by decide +kernel
theorem dL_law_674 : decode cL_law 674 = .ok (.iaload, 1) := by decide +kernel
theorem dL_law_675 : decode cL_law 675 = .ok (.aload_n 0, 1) := by decide +kernel
theorem dL_law_676 : decode cL_law 676 = .ok (.iload 4, 2) := by decide +kernel
theorem dL_law_678 : decode cL_law 678 = .ok (.iconst 2, 1) := by decide +kernel
theorem dL_law_679 : decode cL_law 679 = .ok (.iadd, 1) := by decide +kernel
theorem dL_law_680 : decode cL_law 680 = .ok (.iaload, 1) := by decide +kernel
theorem dL_law_681 : decode cL_law 681 = .ok (.aload_n 3, 1) := by decide +kernel
theorem dL_law_682 : decode cL_law 682 = .ok (.invokestatic 110, 3) := by decide +kernel
theorem dL_law_685 : decode cL_law 685 = .ok (.istore 5, 2) := by decide +kernel
theorem dL_law_687 : decode cL_law 687 = .ok (.aload_n 2, 1) := by decide +kernel
theorem dL_law_688 : decode cL_law 688 = .ok (.aload_n 0, 1) := by decide +kernel
theorem dL_law_689 : decode cL_law 689 = .ok (.iload 4, 2) := by decide +kernel
theorem dL_law_691 : decode cL_law 691 = .ok (.iconst 1, 1) := by decide +kernel
theorem dL_law_692 : decode cL_law 692 = .ok (.iadd, 1) := by decide +kernel
theorem dL_law_693 : decode cL_law 693 = .ok (.iaload, 1) := by decide +kernel
theorem dL_law_694 : decode cL_law 694 = .ok (.aload_n 0, 1) := by decide +kernel
theorem dL_law_695 : decode cL_law 695 = .ok (.iload 4, 2) := by decide +kernel
theorem dL_law_697 : decode cL_law 697 = .ok (.iconst 2, 1) := by decide +kernel
theorem dL_law_698 : decode cL_law 698 = .ok (.iadd, 1) := by decide +kernel
theorem dL_law_699 : decode cL_law 699 = .ok (.iaload, 1) := by decide +kernel
theorem dL_law_7 : decode cL_law 7 = .ok (.astore_n 1, 1) := by decide +kernel
theorem dL_law_700 : decode cL_law 700 = .ok (.invokevirtual 112, 3) := by decide +kernel
theorem dL_law_703 : decode cL_law 703 = .ok (.istore 6, 2) := by decide +kernel
theorem dL_law_705 : decode cL_law 705 = .ok (.aload_n 2, 1) := by decide +kernel
theorem dL_law_706 : decode cL_law 706 = .ok (.invokevirtual 80, 3) := by decide +kernel
theorem dL_law_709 : decode cL_law 709 = .ok (.iload 5, 2) := by decide +kernel
theorem dL_law_711 : decode cL_law 711 = .ok (.if_icmp .eq 5, 3) := by decide +kernel
theorem dL_law_714 : decode cL_law 714 = .ok (.iconst 0, 1) := by decide +kernel
theorem dL_law_715 : decode cL_law 715 = .ok (.ireturn, 1) := by decide +kernel
theorem dL_law_716 : decode cL_law 716 = .ok (.iload 5, 2) := by decide +kernel
theorem dL_law_718 : decode cL_law 718 = .ok (.ifCond .ne 22, 3) := by decide +kernel
theorem dL_law_721 : decode cL_law 721 = .ok (.aload_n 3, 1) := by decide +kernel
theorem dL_law_722 : decode cL_law 722 = .ok (.iconst 0, 1) := by decide +kernel
theorem dL_law_723 : decode cL_law 723 = .ok (.laload, 1) := by decide +kernel
theorem dL_law_724 : decode cL_law 724 = .ok (.iload 6, 2) := by decide +kernel
theorem dL_law_726 : decode cL_law 726 = .ok (.ifCond .eq 7, 3) := by decide +kernel
theorem dL_law_729 : decode cL_law 729 = .ok (.lconst 1, 1) := by decide +kernel
theorem dL_law_730 : decode cL_law 730 = .ok (.goto 4, 3) := by decide +kernel
theorem dL_law_733 : decode cL_law 733 = .ok (.lconst 0, 1) := by decide +kernel
theorem dL_law_734 : decode cL_law 734 = .ok (.lcmp, 1) := by decide +kernel
theorem dL_law_735 : decode cL_law 735 = .ok (.ifCond .eq 5, 3) := by decide +kernel
theorem dL_law_738 : decode cL_law 738 = .ok (.iconst 0, 1) := by decide +kernel
theorem dL_law_739 : decode cL_law 739 = .ok (.ireturn, 1) := by decide +kernel
theorem dL_law_740 : decode cL_law 740 = .ok (.goto 655, 3) := by decide +kernel
theorem dL_law_743 : decode cL_law 743 = .ok (.aload_n 1, 1) := by decide +kernel
theorem dL_law_744 : decode cL_law 744 = .ok (.aload_n 0, 1) := by decide +kernel
theorem dL_law_745 : decode cL_law 745 = .ok (.iload 4, 2) := by decide +kernel
theorem dL_law_747 : decode cL_law 747 = .ok (.iconst 1, 1) := by decide +kernel
theorem dL_law_748 : decode cL_law 748 = .ok (.iadd, 1) := by decide +kernel
theorem dL_law_749 : decode cL_law 749 = .ok (.iaload, 1) := by decide +kernel
theorem dL_law_750 : decode cL_law 750 = .ok (.invokevirtual 113, 3) := by decide +kernel
theorem dL_law_753 : decode cL_law 753 = .ok (.aload_n 2, 1) := by decide +kernel
theorem dL_law_754 : decode cL_law 754 = .ok (.aload_n 0, 1) := by decide +kernel
theorem dL_law_755 : decode cL_law 755 = .ok (.iload 4, 2) := by decide +kernel
theorem dL_law_757 : decode cL_law 757 = .ok (.iconst 1, 1) := by decide +kernel
theorem dL_law_758 : decode cL_law 758 = .ok (.iadd, 1) := by decide +kernel
theorem dL_law_759 : decode cL_law 759 = .ok (.iaload, 1) := by decide +kernel
theorem dL_law_760 : decode cL_law 760 = .ok (.invokevirtual 116, 3) := by decide +kernel
theorem dL_law_763 : decode cL_law 763 = .ok (.if_icmp .eq 632, 3) := by decide +kernel
theorem dL_law_766 : decode cL_law 766 = .ok (.iconst 0, 1) := by decide +kernel
theorem dL_law_767 : decode cL_law 767 = .ok (.ireturn, 1) := by decide +kernel
theorem dL_law_768 : decode cL_law 768 = .ok (.aload_n 1, 1) := by decide +kernel
theorem dL_law_769 : decode cL_law 769 = .ok (.aload_n 0, 1) := by decide +kernel
theorem dL_law_770 : decode cL_law 770 = .ok (.iload 4, 2) := by decide +kernel
theorem dL_law_772 : decode cL_law 772 = .ok (.iconst 1, 1) := by decide +kernel
theorem dL_law_773 : decode cL_law 773 = .ok (.iadd, 1) := by decide +kernel
theorem dL_law_774 : decode cL_law 774 = .ok (.iaload, 1) := by decide +kernel
theorem dL_law_775 : decode cL_law 775 = .ok (.invokevirtual 117, 3) := by decide +kernel
theorem dL_law_778 : decode cL_law 778 = .ok (.aload_n 2, 1) := by decide +kernel
theorem dL_law_779 : decode cL_law 779 = .ok (.aload_n 0, 1) := by decide +kernel
theorem dL_law_780 : decode cL_law 780 = .ok (.iload 4, 2) := by decide +kernel
theorem dL_law_782 : decode cL_law 782 = .ok (.iconst 1, 1) := by decide +kernel
theorem dL_law_783 : decode cL_law 783 = .ok (.iadd, 1) := by decide +kernel
theorem dL_law_784 : decode cL_law 784 = .ok (.iaload, 1) := by decide +kernel
theorem dL_law_785 : decode cL_law 785 = .ok (.invokevirtual 120, 3) := by decide +kernel
theorem dL_law_788 : decode cL_law 788 = .ok (.if_icmp .eq 607, 3) := by decide +kernel
theorem dL_law_791 : decode cL_law 791 = .ok (.iconst 0, 1) := by decide +kernel
theorem dL_law_792 : decode cL_law 792 = .ok (.ireturn, 1) := by decide +kernel
theorem dL_law_793 : decode cL_law 793 = .ok (.aload_n 1, 1) := by decide +kernel
theorem dL_law_794 : decode cL_law 794 = .ok (.aload_n 0, 1) := by decide +kernel
theorem dL_law_795 : decode cL_law 795 = .ok (.iload 4, 2) := by decide +kernel
theorem dL_law_797 : decode cL_law 797 = .ok (.iconst 1, 1) := by decide +kernel
theorem dL_law_798 : decode cL_law 798 = .ok (.iadd, 1) := by decide +kernel
theorem dL_law_799 : decode cL_law 799 = .ok (.iaload, 1) := by decide +kernel
theorem dL_law_8 : decode cL_law 8 = .ok (.new 71, 3) := by decide +kernel
theorem dL_law_800 : decode cL_law 800 = .ok (.aload_n 3, 1) := by decide +kernel
theorem dL_law_801 : decode cL_law 801 = .ok (.invokestatic 121, 3) := by decide +kernel
theorem dL_law_804 : decode cL_law 804 = .ok (.istore 5, 2) := by decide +kernel
theorem dL_law_806 : decode cL_law 806 = .ok (.aload_n 2, 1) := by decide +kernel
theorem dL_law_807 : decode cL_law 807 = .ok (.aload_n 0, 1) := by decide +kernel
theorem dL_law_808 : decode cL_law 808 = .ok (.iload 4, 2) := by decide +kernel
theorem dL_law_810 : decode cL_law 810 = .ok (.iconst 1, 1) := by decide +kernel
theorem dL_law_811 : decode cL_law 811 = .ok (.iadd, 1) := by decide +kernel
theorem dL_law_812 : decode cL_law 812 = .ok (.iaload, 1) := by decide +kernel
theorem dL_law_813 : decode cL_law 813 = .ok (.invokevirtual 123, 3) := by decide +kernel
theorem dL_law_816 : decode cL_law 816 = .ok (.istore 6, 2) := by decide +kernel
theorem dL_law_818 : decode cL_law 818 = .ok (.aload_n 2, 1) := by decide +kernel
theorem dL_law_819 : decode cL_law 819 = .ok (.invokevirtual 80, 3) := by decide +kernel
theorem dL_law_822 : decode cL_law 822 = .ok (.iload 5, 2) := by decide +kernel
theorem dL_law_824 : decode cL_law 824 = .ok (.if_icmp .eq 5, 3) := by decide +kernel
theorem dL_law_827 : decode cL_law 827 = .ok (.iconst 0, 1) := by decide +kernel
theorem dL_law_828 : decode cL_law 828 = .ok (.ireturn, 1) := by decide +kernel
theorem dL_law_829 : decode cL_law 829 = .ok (.iload 5, 2) := by decide +kernel
theorem dL_law_831 : decode cL_law 831 = .ok (.ifCond .ne 15, 3) := by decide +kernel
theorem dL_law_834 : decode cL_law 834 = .ok (.aload_n 3, 1) := by decide +kernel
theorem dL_law_835 : decode cL_law 835 = .ok (.iconst 0, 1) := by decide +kernel
theorem dL_law_836 : decode cL_law 836 = .ok (.laload, 1) := by decide +kernel
theorem dL_law_837 : decode cL_law 837 = .ok (.iload 6, 2) := by decide +kernel
theorem dL_law_839 : decode cL_law 839 = .ok (.i2l, 1) := by decide +kernel
theorem dL_law_840 : decode cL_law 840 = .ok (.lcmp, 1) := by decide +kernel
theorem dL_law_841 : decode cL_law 841 = .ok (.ifCond .eq 5, 3) := by decide +kernel
theorem dL_law_844 : decode cL_law 844 = .ok (.iconst 0, 1) := by decide +kernel
theorem dL_law_845 : decode cL_law 845 = .ok (.ireturn, 1) := by decide +kernel
theorem dL_law_846 : decode cL_law 846 = .ok (.goto 549, 3) := by decide +kernel
theorem dL_law_849 : decode cL_law 849 = .ok (.aload_n 1, 1) := by decide +kernel
theorem dL_law_850 : decode cL_law 850 = .ok (.invokevirtual 124, 3) := by decide +kernel
theorem dL_law_853 : decode cL_law 853 = .ok (.aload_n 2, 1) := by decide +kernel
theorem dL_law_854 : decode cL_law 854 = .ok (.invokevirtual 127, 3) := by decide +kernel
theorem dL_law_857 : decode cL_law 857 = .ok (.if_icmp .eq 538, 3) := by decide +kernel
theorem dL_law_860 : decode cL_law 860 = .ok (.iconst 0, 1) := by decide +kernel
theorem dL_law_861 : decode cL_law 861 = .ok (.ireturn, 1) := by decide +kernel
theorem dL_law_862 : decode cL_law 862 = .ok (.aload_n 1, 1) := by decide +kernel
theorem dL_law_863 : decode cL_law 863 = .ok (.aload_n 0, 1) := by decide +kernel
theorem dL_law_864 : decode cL_law 864 = .ok (.iload 4, 2) := by decide +kernel
theorem dL_law_866 : decode cL_law 866 = .ok (.iconst 1, 1) := by decide +kernel
theorem dL_law_867 : decode cL_law 867 = .ok (.iadd, 1) := by decide +kernel
theorem dL_law_868 : decode cL_law 868 = .ok (.iaload, 1) := by decide +kernel
theorem dL_law_869 : decode cL_law 869 = .ok (.aload_n 3, 1) := by decide +kernel
theorem dL_law_870 : decode cL_law 870 = .ok (.invokestatic 128, 3) := by decide +kernel
theorem dL_law_873 : decode cL_law 873 = .ok (.istore 5, 2) := by decide +kernel
theorem dL_law_875 : decode cL_law 875 = .ok (.aload_n 2, 1) := by decide +kernel
theorem dL_law_876 : decode cL_law 876 = .ok (.aload_n 0, 1) := by decide +kernel
theorem dL_law_877 : decode cL_law 877 = .ok (.iload 4, 2) := by decide +kernel
theorem dL_law_879 : decode cL_law 879 = .ok (.iconst 1, 1) := by decide +kernel
theorem dL_law_880 : decode cL_law 880 = .ok (.iadd, 1) := by decide +kernel
theorem dL_law_881 : decode cL_law 881 = .ok (.iaload, 1) := by decide +kernel
theorem dL_law_882 : decode cL_law 882 = .ok (.invokevirtual 130, 3) := by decide +kernel
theorem dL_law_885 : decode cL_law 885 = .ok (.istore 6, 2) := by decide +kernel
theorem dL_law_887 : decode cL_law 887 = .ok (.aload_n 2, 1) := by decide +kernel
theorem dL_law_888 : decode cL_law 888 = .ok (.invokevirtual 80, 3) := by decide +kernel
theorem dL_law_891 : decode cL_law 891 = .ok (.iload 5, 2) := by decide +kernel
theorem dL_law_893 : decode cL_law 893 = .ok (.if_icmp .eq 5, 3) := by decide +kernel
theorem dL_law_896 : decode cL_law 896 = .ok (.iconst 0, 1) := by decide +kernel
theorem dL_law_897 : decode cL_law 897 = .ok (.ireturn, 1) := by decide +kernel
theorem dL_law_898 : decode cL_law 898 = .ok (.iload 5, 2) := by decide +kernel
theorem dL_law_900 : decode cL_law 900 = .ok (.ifCond .ne 15, 3) := by decide +kernel
theorem dL_law_903 : decode cL_law 903 = .ok (.aload_n 3, 1) := by decide +kernel
theorem dL_law_904 : decode cL_law 904 = .ok (.iconst 0, 1) := by decide +kernel
theorem dL_law_905 : decode cL_law 905 = .ok (.laload, 1) := by decide +kernel
theorem dL_law_906 : decode cL_law 906 = .ok (.iload 6, 2) := by decide +kernel
theorem dL_law_908 : decode cL_law 908 = .ok (.i2l, 1) := by decide +kernel
theorem dL_law_909 : decode cL_law 909 = .ok (.lcmp, 1) := by decide +kernel
theorem dL_law_910 : decode cL_law 910 = .ok (.ifCond .eq 5, 3) := by decide +kernel
theorem dL_law_913 : decode cL_law 913 = .ok (.iconst 0, 1) := by decide +kernel
theorem dL_law_914 : decode cL_law 914 = .ok (.ireturn, 1) := by decide +kernel
theorem dL_law_915 : decode cL_law 915 = .ok (.goto 480, 3) := by decide +kernel
theorem dL_law_918 : decode cL_law 918 = .ok (.aload_n 1, 1) := by decide +kernel
theorem dL_law_919 : decode cL_law 919 = .ok (.aload_n 0, 1) := by decide +kernel
theorem dL_law_920 : decode cL_law 920 = .ok (.iload 4, 2) := by decide +kernel
theorem dL_law_922 : decode cL_law 922 = .ok (.iconst 1, 1) := by decide +kernel
theorem dL_law_923 : decode cL_law 923 = .ok (.iadd, 1) := by decide +kernel
theorem dL_law_924 : decode cL_law 924 = .ok (.iaload, 1) := by decide +kernel
theorem dL_law_925 : decode cL_law 925 = .ok (.aload_n 0, 1) := by decide +kernel
theorem dL_law_926 : decode cL_law 926 = .ok (.iload 4, 2) := by decide +kernel
theorem dL_law_928 : decode cL_law 928 = .ok (.iconst 2, 1) := by decide +kernel
theorem dL_law_929 : decode cL_law 929 = .ok (.iadd, 1) := by decide +kernel
theorem dL_law_930 : decode cL_law 930 = .ok (.iaload, 1) := by decide +kernel
theorem dL_law_931 : decode cL_law 931 = .ok (.aload_n 3, 1) := by decide +kernel
theorem dL_law_932 : decode cL_law 932 = .ok (.invokestatic 131, 3) := by decide +kernel
theorem dL_law_935 : decode cL_law 935 = .ok (.istore 5, 2) := by decide +kernel
theorem dL_law_937 : decode cL_law 937 = .ok (.aload_n 2, 1) := by decide +kernel
theorem dL_law_938 : decode cL_law 938 = .ok (.aload_n 0, 1) := by decide +kernel
theorem dL_law_939 : decode cL_law 939 = .ok (.iload 4, 2) := by decide +kernel
theorem dL_law_941 : decode cL_law 941 = .ok (.iconst 1, 1) := by decide +kernel
theorem dL_law_942 : decode cL_law 942 = .ok (.iadd, 1) := by decide +kernel
theorem dL_law_943 : decode cL_law 943 = .ok (.iaload, 1) := by decide +kernel
theorem dL_law_944 : decode cL_law 944 = .ok (.aload_n 0, 1) := by decide +kernel
theorem dL_law_945 : decode cL_law 945 = .ok (.iload 4, 2) := by decide +kernel
theorem dL_law_947 : decode cL_law 947 = .ok (.iconst 2, 1) := by decide +kernel
theorem dL_law_948 : decode cL_law 948 = .ok (.iadd, 1) := by decide +kernel
theorem dL_law_949 : decode cL_law 949 = .ok (.iaload, 1) := by decide +kernel
theorem dL_law_950 : decode cL_law 950 = .ok (.invokevirtual 133, 3) := by decide +kernel
theorem dL_law_953 : decode cL_law 953 = .ok (.istore 6, 2) := by decide +kernel
theorem dL_law_955 : decode cL_law 955 = .ok (.aload_n 2, 1) := by decide +kernel
theorem dL_law_956 : decode cL_law 956 = .ok (.invokevirtual 80, 3) := by decide +kernel
theorem dL_law_959 : decode cL_law 959 = .ok (.iload 5, 2) := by decide +kernel
theorem dL_law_961 : decode cL_law 961 = .ok (.if_icmp .eq 5, 3) := by decide +kernel
theorem dL_law_964 : decode cL_law 964 = .ok (.iconst 0, 1) := by decide +kernel
theorem dL_law_965 : decode cL_law 965 = .ok (.ireturn, 1) := by decide +kernel
theorem dL_law_966 : decode cL_law 966 = .ok (.iload 5, 2) := by decide +kernel
theorem dL_law_968 : decode cL_law 968 = .ok (.ifCond .ne 15, 3) := by decide +kernel
theorem dL_law_971 : decode cL_law 971 = .ok (.aload_n 3, 1) := by decide +kernel
theorem dL_law_972 : decode cL_law 972 = .ok (.iconst 0, 1) := by decide +kernel
theorem dL_law_973 : decode cL_law 973 = .ok (.laload, 1) := by decide +kernel
theorem dL_law_974 : decode cL_law 974 = .ok (.iload 6, 2) := by decide +kernel
theorem dL_law_976 : decode cL_law 976 = .ok (.i2l, 1) := by decide +kernel
theorem dL_law_977 : decode cL_law 977 = .ok (.lcmp, 1) := by decide +kernel
theorem dL_law_978 : decode cL_law 978 = .ok (.ifCond .eq 5, 3) := by decide +kernel
theorem dL_law_981 : decode cL_law 981 = .ok (.iconst 0, 1) := by decide +kernel
theorem dL_law_982 : decode cL_law 982 = .ok (.ireturn, 1) := by decide +kernel
theorem dL_law_983 : decode cL_law 983 = .ok (.goto 412, 3) := by decide +kernel
theorem dL_law_986 : decode cL_law 986 = .ok (.aload_n 1, 1) := by decide +kernel
theorem dL_law_987 : decode cL_law 987 = .ok (.aload_n 0, 1) := by decide +kernel
theorem dL_law_988 : decode cL_law 988 = .ok (.iload 4, 2) := by decide +kernel
theorem dL_law_990 : decode cL_law 990 = .ok (.iconst 1, 1) := by decide +kernel
theorem dL_law_991 : decode cL_law 991 = .ok (.iadd, 1) := by decide +kernel
theorem dL_law_992 : decode cL_law 992 = .ok (.iaload, 1) := by decide +kernel
theorem dL_law_993 : decode cL_law 993 = .ok (.aload_n 0, 1) := by decide +kernel
theorem dL_law_994 : decode cL_law 994 = .ok (.iload 4, 2) := by decide +kernel
theorem dL_law_996 : decode cL_law 996 = .ok (.iconst 2, 1) := by decide +kernel
theorem dL_law_997 : decode cL_law 997 = .ok (.iadd, 1) := by decide +kernel
theorem dL_law_998 : decode cL_law 998 = .ok (.iaload, 1) := by decide +kernel
theorem dL_law_999 : decode cL_law 999 = .ok (.aload_n 3, 1) := by decide +kernel
theorem dL_number_0 : decode cL_number 0 = .ok (.aload_n 3, 1) := by decide +kernel
theorem dL_number_1 : decode cL_number 1 = .ok (.iconst 0, 1) := by decide +kernel
theorem dL_number_12 : decode cL_number 12 = .ok (.astore 4, 2) := by decide +kernel
theorem dL_number_14 : decode cL_number 14 = .ok (.iconst 1, 1) := by decide +kernel
theorem dL_number_15 : decode cL_number 15 = .ok (.ireturn, 1) := by decide +kernel
theorem dL_number_2 : decode cL_number 2 = .ok (.aload_n 0, 1) := by decide +kernel
theorem dL_number_3 : decode cL_number 3 = .ok (.iload_n 1, 1) := by decide +kernel
theorem dL_number_4 : decode cL_number 4 = .ok (.iload_n 2, 1) := by decide +kernel
theorem dL_number_5 : decode cL_number 5 = .ok (.invokevirtual 63, 3) := by decide +kernel
theorem dL_parent_0 : decode cL_parent 0 = .ok (.aload_n 2, 1) := by decide +kernel
theorem dL_parent_1 : decode cL_parent 1 = .ok (.iconst 0, 1) := by decide +kernel
theorem dL_parent_12 : decode cL_parent 12 = .ok (.astore_n 3, 1) := by decide +kernel
theorem dL_parent_13 : decode cL_parent 13 = .ok (.iconst 1, 1) := by decide +kernel
theorem dL_parent_14 : decode cL_parent 14 = .ok (.ireturn, 1) := by decide +kernel
theorem dL_parent_2 : decode cL_parent 2 = .ok (.aload_n 0, 1) := by decide +kernel
theorem dL_parent_3 : decode cL_parent 3 = .ok (.iload_n 1, 1) := by decide +kernel
theorem dL_parent_4 : decode cL_parent 4 = .ok (.invokevirtual 54, 3) := by decide +kernel
theorem dL_reset_0 : decode cL_reset 0 = .ok (.aload_n 3, 1) := by decide +kernel
theorem dL_reset_1 : decode cL_reset 1 = .ok (.iconst 0, 1) := by decide +kernel
theorem dL_reset_13 : decode cL_reset 13 = .ok (.astore 4, 2) := by decide +kernel
theorem dL_reset_15 : decode cL_reset 15 = .ok (.iconst 1, 1) := by decide +kernel
theorem dL_reset_16 : decode cL_reset 16 = .ok (.ireturn, 1) := by decide +kernel
theorem dL_reset_2 : decode cL_reset 2 = .ok (.aload_n 0, 1) := by decide +kernel
theorem dL_reset_3 : decode cL_reset 3 = .ok (.iload_n 1, 1) := by decide +kernel
theorem dL_reset_4 : decode cL_reset 4 = .ok (.iload_n 2, 1) := by decide +kernel
theorem dL_reset_5 : decode cL_reset 5 = .ok (.invokevirtual 34, 3) := by decide +kernel
theorem dL_set_0 : decode cL_set 0 = .ok (.aload 6, 2) := by decide +kernel
theorem dL_set_11 : decode cL_set 11 = .ok (.invokevirtual 7, 3) := by decide +kernel
theorem dL_set_14 : decode cL_set 14 = .ok (.i2l, 1) := by decide +kernel
theorem dL_set_15 : decode cL_set 15 = .ok (.lastore, 1) := by decide +kernel
theorem dL_set_16 : decode cL_set 16 = .ok (.goto 11, 3) := by decide +kernel
theorem dL_set_19 : decode cL_set 19 = .ok (.astore 7, 2) := by decide +kernel
theorem dL_set_2 : decode cL_set 2 = .ok (.iconst 0, 1) := by decide +kernel
theorem dL_set_21 : decode cL_set 21 = .ok (.iconst 1, 1) := by decide +kernel
theorem dL_set_22 : decode cL_set 22 = .ok (.ireturn, 1) := by decide +kernel
theorem dL_set_23 : decode cL_set 23 = .ok (.astore 7, 2) := by decide +kernel
theorem dL_set_25 : decode cL_set 25 = .ok (.iconst 2, 1) := by decide +kernel
theorem dL_set_26 : decode cL_set 26 = .ok (.ireturn, 1) := by decide +kernel
theorem dL_set_27 : decode cL_set 27 = .ok (.iconst 0, 1) := by decide +kernel
theorem dL_set_28 : decode cL_set 28 = .ok (.ireturn, 1) := by decide +kernel
theorem dL_set_3 : decode cL_set 3 = .ok (.aload_n 0, 1) := by decide +kernel
theorem dL_set_4 : decode cL_set 4 = .ok (.iload_n 1, 1) := by decide +kernel
theorem dL_set_5 : decode cL_set 5 = .ok (.iload_n 2, 1) := by decide +kernel
theorem dL_set_6 : decode cL_set 6 = .ok (.iload_n 3, 1) := by decide +kernel
theorem dL_set_7 : decode cL_set 7 = .ok (.iload 4, 2) := by decide +kernel
theorem dL_set_9 : decode cL_set 9 = .ok (.iload 5, 2) := by decide +kernel
theorem dL_signal_0 : decode cL_signal 0 = .ok (.aload 4, 2) := by decide +kernel
theorem dL_signal_2 : decode cL_signal 2 = .ok (.iconst 0, 1) := by decide +kernel
theorem dL_signal_22 : decode cL_signal 22 = .ok (.astore 5, 2) := by decide +kernel
theorem dL_signal_24 : decode cL_signal 24 = .ok (.iconst 1, 1) := by decide +kernel
theorem dL_signal_25 : decode cL_signal 25 = .ok (.ireturn, 1) := by decide +kernel
theorem dL_signal_3 : decode cL_signal 3 = .ok (.aload_n 0, 1) := by decide +kernel
theorem dL_signal_4 : decode cL_signal 4 = .ok (.iload_n 1, 1) := by decide +kernel
theorem dL_signal_5 : decode cL_signal 5 = .ok (.iload_n 2, 1) := by decide +kernel
theorem dL_signal_6 : decode cL_signal 6 = .ok (.iload_n 3, 1) := by decide +kernel
theorem dL_signal_7 : decode cL_signal 7 = .ok (.invokevirtual 26, 3) := by decide +kernel
theorem dL_start_0 : decode cL_start 0 = .ok (.aload_n 3, 1) := by decide +kernel
theorem dL_start_1 : decode cL_start 1 = .ok (.iconst 0, 1) := by decide +kernel
theorem dL_start_10 : decode cL_start 10 = .ok (.goto 15, 3) := by decide +kernel
theorem dL_start_13 : decode cL_start 13 = .ok (.astore 4, 2) := by decide +kernel
theorem dL_start_15 : decode cL_start 15 = .ok (.iconst 1, 1) := by decide +kernel
theorem dL_start_16 : decode cL_start 16 = .ok (.ireturn, 1) := by decide +kernel
theorem dL_start_17 : decode cL_start 17 = .ok (.astore 4, 2) := by decide +kernel
theorem dL_start_19 : decode cL_start 19 = .ok (.iconst 2, 1) := by decide +kernel
theorem dL_start_2 : decode cL_start 2 = .ok (.aload_n 0, 1) := by decide +kernel
theorem dL_start_20 : decode cL_start 20 = .ok (.ireturn, 1) := by decide +kernel
theorem dL_start_25 : decode cL_start 25 = .ok (.iconst 0, 1) := by decide +kernel
theorem dL_start_26 : decode cL_start 26 = .ok (.ireturn, 1) := by decide +kernel
theorem dL_start_3 : decode cL_start 3 = .ok (.iload_n 1, 1) := by decide +kernel
theorem dL_start_4 : decode cL_start 4 = .ok (.iload_n 2, 1) := by decide +kernel
theorem dL_start_5 : decode cL_start 5 = .ok (.invokevirtual 20, 3) := by decide +kernel
theorem dL_start_8 : decode cL_start 8 = .ok (.i2l, 1) := by decide +kernel
theorem dL_start_9 : decode cL_start 9 = .ok (.lastore, 1) := by decide +kernel
theorem dL_state_0 : decode cL_state 0 = .ok (.aload_n 2, 1) := by decide +kernel
theorem dL_state_1 : decode cL_state 1 = .ok (.iconst 0, 1) := by decide +kernel
theorem dL_state_12 : decode cL_state 12 = .ok (.astore_n 3, 1) := by decide +kernel
theorem dL_state_13 : decode cL_state 13 = .ok (.iconst 1, 1) := by decide +kernel
theorem dL_state_14 : decode cL_state 14 = .ok (.ireturn, 1) := by decide +kernel
theorem dL_state_2 : decode cL_state 2 = .ok (.aload_n 0, 1) := by decide +kernel
theorem dL_state_3 : decode cL_state 3 = .ok (.iload_n 1, 1) := by decide +kernel
theorem dL_state_4 : decode cL_state 4 = .ok (.invokevirtual 45, 3) := by decide +kernel
theorem dL_task_0 : decode cL_task 0 = .ok (.aload_n 3, 1) := by decide +kernel
theorem dL_task_1 : decode cL_task 1 = .ok (.iconst 0, 1) := by decide +kernel
theorem dL_task_13 : decode cL_task 13 = .ok (.astore 4, 2) := by decide +kernel
theorem dL_task_15 : decode cL_task 15 = .ok (.iconst 1, 1) := by decide +kernel
theorem dL_task_16 : decode cL_task 16 = .ok (.ireturn, 1) := by decide +kernel
theorem dL_task_2 : decode cL_task 2 = .ok (.aload_n 0, 1) := by decide +kernel
theorem dL_task_3 : decode cL_task 3 = .ok (.iload_n 1, 1) := by decide +kernel
theorem dL_task_4 : decode cL_task 4 = .ok (.iload_n 2, 1) := by decide +kernel
theorem dL_task_5 : decode cL_task 5 = .ok (.invokevirtual 67, 3) := by decide +kernel
theorem dL_tick_0 : decode cL_tick 0 = .ok (.aload_n 2, 1) := by decide +kernel
theorem dL_tick_1 : decode cL_tick 1 = .ok (.iconst 0, 1) := by decide +kernel
theorem dL_tick_12 : decode cL_tick 12 = .ok (.astore_n 3, 1) := by decide +kernel
theorem dL_tick_13 : decode cL_tick 13 = .ok (.iconst 1, 1) := by decide +kernel
theorem dL_tick_14 : decode cL_tick 14 = .ok (.ireturn, 1) := by decide +kernel
theorem dL_tick_15 : decode cL_tick 15 = .ok (.iconst 0, 1) := by decide +kernel
theorem dL_tick_16 : decode cL_tick 16 = .ok (.ireturn, 1) := by decide +kernel
theorem dL_tick_2 : decode cL_tick 2 = .ok (.aload_n 0, 1) := by decide +kernel
theorem dL_tick_3 : decode cL_tick 3 = .ok (.iload_n 1, 1) := by decide +kernel
theorem dL_tick_4 : decode cL_tick 4 = .ok (.invokevirtual 41, 3) := by decide +kernel
theorem dL_tick_7 : decode cL_tick 7 = .ok (.i2l, 1) := by decide +kernel
theorem dL_tick_8 : decode cL_tick 8 = .ok (.lastore, 1) := by decide +kernel
theorem dL_tick_9 : decode cL_tick 9 = .ok (.goto 6, 3) := by decide +kernel
theorem dX0_init_0 : decode cX0_init 0 = .ok (.aload_n 0, 1) := by decide +kernel
theorem dX0_init_1 : decode cX0_init 1 = .ok (.invokespecial 3, 3) := by decide +kernel
theorem dX0_init_10 : decode cX0_init 10 = .ok (.iconst (-1), 1) := by decide +kernel
theorem dX0_init_11 : decode cX0_init 11 = .ok (.putfield 15, 3) := by decide +kernel
theorem dX0_init_14 : decode cX0_init 14 = .ok (.aload_n 0, 1) := by decide +kernel
theorem dX0_init_15 : decode cX0_init 15 = .ok (.iconst (-1), 1) := by decide +kernel
theorem dX0_init_16 : decode cX0_init 16 = .ok (.putfield 18, 3) := by decide +kernel
theorem dX0_init_19 : decode cX0_init 19 = .ok (.aload_n 0, 1) := by decide +kernel
theorem dX0_init_20 : decode cX0_init 20 = .ok (.iload_n 1, 1) := by decide +kernel
theorem dX0_init_21 : decode cX0_init 21 = .ok (.putfield 21, 3) := by decide +kernel
theorem dX0_init_24 : decode cX0_init 24 = .ok (.aload_n 0, 1) := by decide +kernel
theorem dX0_init_25 : decode cX0_init 25 = .ok (.aload_n 2, 1) := by decide +kernel
theorem dX0_init_26 : decode cX0_init 26 = .ok (.putfield 24, 3) := by decide +kernel
theorem dX0_init_29 : decode cX0_init 29 = .ok (.aload_n 0, 1) := by decide +kernel
theorem dX0_init_30 : decode cX0_init 30 = .ok (.aload_n 3, 1) := by decide +kernel
theorem dX0_init_31 : decode cX0_init 31 = .ok (.putfield 28, 3) := by decide +kernel
theorem dX0_init_34 : decode cX0_init 34 = .ok (.aload_n 0, 1) := by decide +kernel
theorem dX0_init_35 : decode cX0_init 35 = .ok (.aload 4, 2) := by decide +kernel
theorem dX0_init_37 : decode cX0_init 37 = .ok (.putfield 32, 3) := by decide +kernel
theorem dX0_init_4 : decode cX0_init 4 = .ok (.aload_n 0, 1) := by decide +kernel
theorem dX0_init_40 : decode cX0_init 40 = .ok (.return_, 1) := by decide +kernel
theorem dX0_init_5 : decode cX0_init 5 = .ok (.iconst (-1), 1) := by decide +kernel
theorem dX0_init_6 : decode cX0_init 6 = .ok (.putfield 9, 3) := by decide +kernel
theorem dX0_init_9 : decode cX0_init 9 = .ok (.aload_n 0, 1) := by decide +kernel
theorem dX0_letGo_0 : decode cX0_letGo 0 = .ok (.aload_n 0, 1) := by decide +kernel
theorem dX0_letGo_1 : decode cX0_letGo 1 = .ok (.getfield 69, 3) := by decide +kernel
theorem dX0_letGo_33 : decode cX0_letGo 33 = .ok (.return_, 1) := by decide +kernel
theorem dX0_letGo_4 : decode cX0_letGo 4 = .ok (.astore_n 1, 1) := by decide +kernel
theorem dX0_letGo_5 : decode cX0_letGo 5 = .ok (.aload_n 1, 1) := by decide +kernel
theorem dX0_letGo_6 : decode cX0_letGo 6 = .ok (.ifnull 27, 3) := by decide +kernel
theorem dX1_add_0 : decode cX1_add 0 = .ok (.aload_n 0, 1) := by decide +kernel
theorem dX1_add_1 : decode cX1_add 1 = .ok (.getfield 19, 3) := by decide +kernel
theorem dX1_add_11 : decode cX1_add 11 = .ok (.aload_n 0, 1) := by decide +kernel
theorem dX1_add_12 : decode cX1_add 12 = .ok (.getfield 9, 3) := by decide +kernel
theorem dX1_add_15 : decode cX1_add 15 = .ok (.arraylength, 1) := by decide +kernel
theorem dX1_add_16 : decode cX1_add 16 = .ok (.if_icmp .ge 46, 3) := by decide +kernel
theorem dX1_add_19 : decode cX1_add 19 = .ok (.aload_n 0, 1) := by decide +kernel
theorem dX1_add_20 : decode cX1_add 20 = .ok (.getfield 19, 3) := by decide +kernel
theorem dX1_add_23 : decode cX1_add 23 = .ok (.aload_n 0, 1) := by decide +kernel
theorem dX1_add_24 : decode cX1_add 24 = .ok (.getfield 15, 3) := by decide +kernel
theorem dX1_add_27 : decode cX1_add 27 = .ok (.arraylength, 1) := by decide +kernel
theorem dX1_add_28 : decode cX1_add 28 = .ok (.if_icmp .ge 34, 3) := by decide +kernel
theorem dX1_add_31 : decode cX1_add 31 = .ok (.aload_n 0, 1) := by decide +kernel
theorem dX1_add_32 : decode cX1_add 32 = .ok (.getfield 9, 3) := by decide +kernel
theorem dX1_add_35 : decode cX1_add 35 = .ok (.aload_n 0, 1) := by decide +kernel
theorem dX1_add_36 : decode cX1_add 36 = .ok (.getfield 19, 3) := by decide +kernel
theorem dX1_add_39 : decode cX1_add 39 = .ok (.iload_n 1, 1) := by decide +kernel
theorem dX1_add_4 : decode cX1_add 4 = .ok (.ifCond .lt 58, 3) := by decide +kernel
theorem dX1_add_40 : decode cX1_add 40 = .ok (.i2b, 1) := by decide +kernel
theorem dX1_add_41 : decode cX1_add 41 = .ok (.bastore, 1) := by decide +kernel
theorem dX1_add_42 : decode cX1_add 42 = .ok (.aload_n 0, 1) := by decide +kernel
theorem dX1_add_43 : decode cX1_add 43 = .ok (.getfield 15, 3) := by decide +kernel
theorem dX1_add_46 : decode cX1_add 46 = .ok (.aload_n 0, 1) := by decide +kernel
theorem dX1_add_47 : decode cX1_add 47 = .ok (.getfield 19, 3) := by decide +kernel
theorem dX1_add_50 : decode cX1_add 50 = .ok (.lload_n 2, 1) := by decide +kernel
theorem dX1_add_51 : decode cX1_add 51 = .ok (.lastore, 1) := by decide +kernel
theorem dX1_add_52 : decode cX1_add 52 = .ok (.aload_n 0, 1) := by decide +kernel
theorem dX1_add_53 : decode cX1_add 53 = .ok (.dup, 1) := by decide +kernel
theorem dX1_add_54 : decode cX1_add 54 = .ok (.getfield 19, 3) := by decide +kernel
theorem dX1_add_57 : decode cX1_add 57 = .ok (.iconst 1, 1) := by decide +kernel
theorem dX1_add_58 : decode cX1_add 58 = .ok (.iadd, 1) := by decide +kernel
theorem dX1_add_59 : decode cX1_add 59 = .ok (.putfield 19, 3) := by decide +kernel
theorem dX1_add_62 : decode cX1_add 62 = .ok (.return_, 1) := by decide +kernel
theorem dX1_add_7 : decode cX1_add 7 = .ok (.aload_n 0, 1) := by decide +kernel
theorem dX1_add_8 : decode cX1_add 8 = .ok (.getfield 19, 3) := by decide +kernel
theorem dX1_init_0 : decode cX1_init 0 = .ok (.aload_n 0, 1) := by decide +kernel
theorem dX1_init_1 : decode cX1_init 1 = .ok (.invokespecial 3, 3) := by decide +kernel
theorem dX1_init_10 : decode cX1_init 10 = .ok (.putfield 9, 3) := by decide +kernel
theorem dX1_init_13 : decode cX1_init 13 = .ok (.aload_n 0, 1) := by decide +kernel
theorem dX1_init_14 : decode cX1_init 14 = .ok (.sipush 140, 3) := by decide +kernel
theorem dX1_init_17 : decode cX1_init 17 = .ok (.newarray .long, 2) := by decide +kernel
theorem dX1_init_19 : decode cX1_init 19 = .ok (.putfield 15, 3) := by decide +kernel
theorem dX1_init_22 : decode cX1_init 22 = .ok (.return_, 1) := by decide +kernel
theorem dX1_init_4 : decode cX1_init 4 = .ok (.aload_n 0, 1) := by decide +kernel
theorem dX1_init_5 : decode cX1_init 5 = .ok (.sipush 140, 3) := by decide +kernel
theorem dX1_init_8 : decode cX1_init 8 = .ok (.newarray .byte, 2) := by decide +kernel
theorem dX1_kindAt_0 : decode cX1_kindAt 0 = .ok (.iload_n 1, 1) := by decide +kernel
theorem dX1_kindAt_1 : decode cX1_kindAt 1 = .ok (.ifCond .lt 29, 3) := by decide +kernel
theorem dX1_kindAt_12 : decode cX1_kindAt 12 = .ok (.iload_n 1, 1) := by decide +kernel
theorem dX1_kindAt_13 : decode cX1_kindAt 13 = .ok (.aload_n 0, 1) := by decide +kernel
theorem dX1_kindAt_14 : decode cX1_kindAt 14 = .ok (.getfield 9, 3) := by decide +kernel
theorem dX1_kindAt_17 : decode cX1_kindAt 17 = .ok (.arraylength, 1) := by decide +kernel
theorem dX1_kindAt_18 : decode cX1_kindAt 18 = .ok (.if_icmp .ge 12, 3) := by decide +kernel
theorem dX1_kindAt_21 : decode cX1_kindAt 21 = .ok (.aload_n 0, 1) := by decide +kernel
theorem dX1_kindAt_22 : decode cX1_kindAt 22 = .ok (.getfield 9, 3) := by decide +kernel
theorem dX1_kindAt_25 : decode cX1_kindAt 25 = .ok (.iload_n 1, 1) := by decide +kernel
theorem dX1_kindAt_26 : decode cX1_kindAt 26 = .ok (.baload, 1) := by decide +kernel
theorem dX1_kindAt_27 : decode cX1_kindAt 27 = .ok (.goto 4, 3) := by decide +kernel
theorem dX1_kindAt_31 : decode cX1_kindAt 31 = .ok (.ireturn, 1) := by decide +kernel
theorem dX1_kindAt_4 : decode cX1_kindAt 4 = .ok (.iload_n 1, 1) := by decide +kernel
theorem dX1_kindAt_5 : decode cX1_kindAt 5 = .ok (.aload_n 0, 1) := by decide +kernel
theorem dX1_kindAt_6 : decode cX1_kindAt 6 = .ok (.getfield 19, 3) := by decide +kernel
theorem dX1_kindAt_9 : decode cX1_kindAt 9 = .ok (.if_icmp .ge 21, 3) := by decide +kernel
theorem dX1_numberAt_0 : decode cX1_numberAt 0 = .ok (.iload_n 1, 1) := by decide +kernel
theorem dX1_numberAt_1 : decode cX1_numberAt 1 = .ok (.ifCond .lt 29, 3) := by decide +kernel
theorem dX1_numberAt_12 : decode cX1_numberAt 12 = .ok (.iload_n 1, 1) := by decide +kernel
theorem dX1_numberAt_13 : decode cX1_numberAt 13 = .ok (.aload_n 0, 1) := by decide +kernel
theorem dX1_numberAt_14 : decode cX1_numberAt 14 = .ok (.getfield 15, 3) := by decide +kernel
theorem dX1_numberAt_17 : decode cX1_numberAt 17 = .ok (.arraylength, 1) := by decide +kernel
theorem dX1_numberAt_18 : decode cX1_numberAt 18 = .ok (.if_icmp .ge 12, 3) := by decide +kernel
theorem dX1_numberAt_21 : decode cX1_numberAt 21 = .ok (.aload_n 0, 1) := by decide +kernel
theorem dX1_numberAt_22 : decode cX1_numberAt 22 = .ok (.getfield 15, 3) := by decide +kernel
theorem dX1_numberAt_25 : decode cX1_numberAt 25 = .ok (.iload_n 1, 1) := by decide +kernel
theorem dX1_numberAt_26 : decode cX1_numberAt 26 = .ok (.laload, 1) := by decide +kernel
theorem dX1_numberAt_27 : decode cX1_numberAt 27 = .ok (.goto 4, 3) := by decide +kernel
theorem dX1_numberAt_31 : decode cX1_numberAt 31 = .ok (.lreturn, 1) := by decide +kernel
theorem dX1_numberAt_4 : decode cX1_numberAt 4 = .ok (.iload_n 1, 1) := by decide +kernel
theorem dX1_numberAt_5 : decode cX1_numberAt 5 = .ok (.aload_n 0, 1) := by decide +kernel
theorem dX1_numberAt_6 : decode cX1_numberAt 6 = .ok (.getfield 19, 3) := by decide +kernel
theorem dX1_numberAt_9 : decode cX1_numberAt 9 = .ok (.if_icmp .ge 21, 3) := by decide +kernel
theorem dX1_size_0 : decode cX1_size 0 = .ok (.aload_n 0, 1) := by decide +kernel
theorem dX1_size_1 : decode cX1_size 1 = .ok (.getfield 19, 3) := by decide +kernel
theorem dX1_size_4 : decode cX1_size 4 = .ok (.ireturn, 1) := by decide +kernel
theorem dX2_addLast_0 : decode cX2_addLast 0 = .ok (.aload_n 1, 1) := by decide +kernel
theorem dX2_addLast_1 : decode cX2_addLast 1 = .ok (.ifnull 42, 3) := by decide +kernel
theorem dX2_addLast_11 : decode cX2_addLast 11 = .ok (.aload_n 0, 1) := by decide +kernel
theorem dX2_addLast_12 : decode cX2_addLast 12 = .ok (.getfield 21, 3) := by decide +kernel
theorem dX2_addLast_15 : decode cX2_addLast 15 = .ok (.aload_n 0, 1) := by decide +kernel
theorem dX2_addLast_16 : decode cX2_addLast 16 = .ok (.getfield 11, 3) := by decide +kernel
theorem dX2_addLast_19 : decode cX2_addLast 19 = .ok (.arraylength, 1) := by decide +kernel
theorem dX2_addLast_20 : decode cX2_addLast 20 = .ok (.if_icmp .ge 23, 3) := by decide +kernel
theorem dX2_addLast_23 : decode cX2_addLast 23 = .ok (.aload_n 0, 1) := by decide +kernel
theorem dX2_addLast_24 : decode cX2_addLast 24 = .ok (.getfield 11, 3) := by decide +kernel
theorem dX2_addLast_27 : decode cX2_addLast 27 = .ok (.aload_n 0, 1) := by decide +kernel
theorem dX2_addLast_28 : decode cX2_addLast 28 = .ok (.getfield 21, 3) := by decide +kernel
theorem dX2_addLast_31 : decode cX2_addLast 31 = .ok (.aload_n 1, 1) := by decide +kernel
theorem dX2_addLast_32 : decode cX2_addLast 32 = .ok (.aastore, 1) := by decide +kernel
theorem dX2_addLast_33 : decode cX2_addLast 33 = .ok (.aload_n 0, 1) := by decide +kernel
theorem dX2_addLast_34 : decode cX2_addLast 34 = .ok (.dup, 1) := by decide +kernel
theorem dX2_addLast_35 : decode cX2_addLast 35 = .ok (.getfield 21, 3) := by decide +kernel
theorem dX2_addLast_38 : decode cX2_addLast 38 = .ok (.iconst 1, 1) := by decide +kernel
theorem dX2_addLast_39 : decode cX2_addLast 39 = .ok (.iadd, 1) := by decide +kernel
theorem dX2_addLast_4 : decode cX2_addLast 4 = .ok (.aload_n 0, 1) := by decide +kernel
theorem dX2_addLast_40 : decode cX2_addLast 40 = .ok (.putfield 21, 3) := by decide +kernel
theorem dX2_addLast_43 : decode cX2_addLast 43 = .ok (.return_, 1) := by decide +kernel
theorem dX2_addLast_5 : decode cX2_addLast 5 = .ok (.getfield 21, 3) := by decide +kernel
theorem dX2_addLast_8 : decode cX2_addLast 8 = .ok (.ifCond .lt 35, 3) := by decide +kernel
theorem dX2_init_0 : decode cX2_init 0 = .ok (.aload_n 0, 1) := by decide +kernel
theorem dX2_init_1 : decode cX2_init 1 = .ok (.invokespecial 3, 3) := by decide +kernel
theorem dX2_init_11 : decode cX2_init 11 = .ok (.putfield 11, 3) := by decide +kernel
theorem dX2_init_14 : decode cX2_init 14 = .ok (.return_, 1) := by decide +kernel
theorem dX2_init_4 : decode cX2_init 4 = .ok (.aload_n 0, 1) := by decide +kernel
theorem dX2_init_5 : decode cX2_init 5 = .ok (.sipush 128, 3) := by decide +kernel
theorem dX2_init_8 : decode cX2_init 8 = .ok (.anewarray 9, 3) := by decide +kernel
theorem dX2_isEmpty_0 : decode cX2_isEmpty 0 = .ok (.aload_n 0, 1) := by decide +kernel
theorem dX2_isEmpty_1 : decode cX2_isEmpty 1 = .ok (.getfield 17, 3) := by decide +kernel
theorem dX2_isEmpty_11 : decode cX2_isEmpty 11 = .ok (.iconst 1, 1) := by decide +kernel
theorem dX2_isEmpty_12 : decode cX2_isEmpty 12 = .ok (.goto 4, 3) := by decide +kernel
theorem dX2_isEmpty_15 : decode cX2_isEmpty 15 = .ok (.iconst 0, 1) := by decide +kernel
theorem dX2_isEmpty_16 : decode cX2_isEmpty 16 = .ok (.ireturn, 1) := by decide +kernel
theorem dX2_isEmpty_4 : decode cX2_isEmpty 4 = .ok (.aload_n 0, 1) := by decide +kernel
theorem dX2_isEmpty_5 : decode cX2_isEmpty 5 = .ok (.getfield 21, 3) := by decide +kernel
theorem dX2_isEmpty_8 : decode cX2_isEmpty 8 = .ok (.if_icmp .lt 7, 3) := by decide +kernel
theorem dX2_last_0 : decode cX2_last 0 = .ok (.aload_n 0, 1) := by decide +kernel
theorem dX2_last_1 : decode cX2_last 1 = .ok (.getfield 21, 3) := by decide +kernel
theorem dX2_last_12 : decode cX2_last 12 = .ok (.if_icmp .lt 25, 3) := by decide +kernel
theorem dX2_last_15 : decode cX2_last 15 = .ok (.iload_n 1, 1) := by decide +kernel
theorem dX2_last_16 : decode cX2_last 16 = .ok (.ifCond .lt 21, 3) := by decide +kernel
theorem dX2_last_19 : decode cX2_last 19 = .ok (.iload_n 1, 1) := by decide +kernel
theorem dX2_last_20 : decode cX2_last 20 = .ok (.aload_n 0, 1) := by decide +kernel
theorem dX2_last_21 : decode cX2_last 21 = .ok (.getfield 11, 3) := by decide +kernel
theorem dX2_last_24 : decode cX2_last 24 = .ok (.arraylength, 1) := by decide +kernel
theorem dX2_last_25 : decode cX2_last 25 = .ok (.if_icmp .ge 12, 3) := by decide +kernel
theorem dX2_last_28 : decode cX2_last 28 = .ok (.aload_n 0, 1) := by decide +kernel
theorem dX2_last_29 : decode cX2_last 29 = .ok (.getfield 11, 3) := by decide +kernel
theorem dX2_last_32 : decode cX2_last 32 = .ok (.iload_n 1, 1) := by decide +kernel
theorem dX2_last_33 : decode cX2_last 33 = .ok (.aaload, 1) := by decide +kernel
theorem dX2_last_34 : decode cX2_last 34 = .ok (.goto 4, 3) := by decide +kernel
theorem dX2_last_37 : decode cX2_last 37 = .ok (.aconst_null, 1) := by decide +kernel
theorem dX2_last_38 : decode cX2_last 38 = .ok (.areturn, 1) := by decide +kernel
theorem dX2_last_4 : decode cX2_last 4 = .ok (.iconst 1, 1) := by decide +kernel
theorem dX2_last_5 : decode cX2_last 5 = .ok (.isub, 1) := by decide +kernel
theorem dX2_last_6 : decode cX2_last 6 = .ok (.istore_n 1, 1) := by decide +kernel
theorem dX2_last_7 : decode cX2_last 7 = .ok (.iload_n 1, 1) := by decide +kernel
theorem dX2_last_8 : decode cX2_last 8 = .ok (.aload_n 0, 1) := by decide +kernel
theorem dX2_last_9 : decode cX2_last 9 = .ok (.getfield 17, 3) := by decide +kernel
theorem dX2_removeFirst_0 : decode cX2_removeFirst 0 = .ok (.aload_n 0, 1) := by decide +kernel
theorem dX2_removeFirst_1 : decode cX2_removeFirst 1 = .ok (.getfield 17, 3) := by decide +kernel
theorem dX2_removeFirst_11 : decode cX2_removeFirst 11 = .ok (.aload_n 0, 1) := by decide +kernel
theorem dX2_removeFirst_12 : decode cX2_removeFirst 12 = .ok (.getfield 21, 3) := by decide +kernel
theorem dX2_removeFirst_15 : decode cX2_removeFirst 15 = .ok (.if_icmp .ge 15, 3) := by decide +kernel
theorem dX2_removeFirst_30 : decode cX2_removeFirst 30 = .ok (.aload_n 0, 1) := by decide +kernel
theorem dX2_removeFirst_31 : decode cX2_removeFirst 31 = .ok (.iconst 0, 1) := by decide +kernel
theorem dX2_removeFirst_32 : decode cX2_removeFirst 32 = .ok (.putfield 17, 3) := by decide +kernel
theorem dX2_removeFirst_35 : decode cX2_removeFirst 35 = .ok (.aload_n 0, 1) := by decide +kernel
theorem dX2_removeFirst_36 : decode cX2_removeFirst 36 = .ok (.iconst 0, 1) := by decide +kernel
theorem dX2_removeFirst_37 : decode cX2_removeFirst 37 = .ok (.putfield 21, 3) := by decide +kernel
theorem dX2_removeFirst_4 : decode cX2_removeFirst 4 = .ok (.ifCond .lt 26, 3) := by decide +kernel
theorem dX2_removeFirst_40 : decode cX2_removeFirst 40 = .ok (.aconst_null, 1) := by decide +kernel
theorem dX2_removeFirst_41 : decode cX2_removeFirst 41 = .ok (.areturn, 1) := by decide +kernel
theorem dX2_removeFirst_7 : decode cX2_removeFirst 7 = .ok (.aload_n 0, 1) := by decide +kernel
theorem dX2_removeFirst_8 : decode cX2_removeFirst 8 = .ok (.getfield 17, 3) := by decide +kernel
theorem dX2_removeLast_0 : decode cX2_removeLast 0 = .ok (.aload_n 0, 1) := by decide +kernel
theorem dX2_removeLast_1 : decode cX2_removeLast 1 = .ok (.getfield 21, 3) := by decide +kernel
theorem dX2_removeLast_11 : decode cX2_removeLast 11 = .ok (.aload_n 0, 1) := by decide +kernel
theorem dX2_removeLast_12 : decode cX2_removeLast 12 = .ok (.dup, 1) := by decide +kernel
theorem dX2_removeLast_13 : decode cX2_removeLast 13 = .ok (.getfield 21, 3) := by decide +kernel
theorem dX2_removeLast_16 : decode cX2_removeLast 16 = .ok (.iconst 1, 1) := by decide +kernel
theorem dX2_removeLast_17 : decode cX2_removeLast 17 = .ok (.isub, 1) := by decide +kernel
theorem dX2_removeLast_18 : decode cX2_removeLast 18 = .ok (.putfield 21, 3) := by decide +kernel
theorem dX2_removeLast_21 : decode cX2_removeLast 21 = .ok (.return_, 1) := by decide +kernel
theorem dX2_removeLast_4 : decode cX2_removeLast 4 = .ok (.aload_n 0, 1) := by decide +kernel
theorem dX2_removeLast_5 : decode cX2_removeLast 5 = .ok (.getfield 17, 3) := by decide +kernel
theorem dX2_removeLast_8 : decode cX2_removeLast 8 = .ok (.if_icmp .le 13, 3) := by decide +kernel
theorem dX3_init_0 : decode cX3_init 0 = .ok (.aload_n 0, 1) := by decide +kernel
theorem dX3_init_1 : decode cX3_init 1 = .ok (.invokespecial 3, 3) := by decide +kernel
theorem dX3_init_12 : decode cX3_init 12 = .ok (.return_, 1) := by decide +kernel
theorem dX3_init_4 : decode cX3_init 4 = .ok (.aload_n 0, 1) := by decide +kernel
theorem dX3_init_5 : decode cX3_init 5 = .ok (.bipush 20, 2) := by decide +kernel
theorem dX3_init_7 : decode cX3_init 7 = .ok (.newarray .int, 2) := by decide +kernel
theorem dX3_init_9 : decode cX3_init 9 = .ok (.putfield 9, 3) := by decide +kernel
theorem dX4_first_0 : decode cX4_first 0 = .ok (.iload_n 1, 1) := by decide +kernel
theorem dX4_first_1 : decode cX4_first 1 = .ok (.ifCond .lt 21, 3) := by decide +kernel
theorem dX4_first_10 : decode cX4_first 10 = .ok (.if_icmp .ge 12, 3) := by decide +kernel
theorem dX4_first_13 : decode cX4_first 13 = .ok (.aload_n 0, 1) := by decide +kernel
theorem dX4_first_14 : decode cX4_first 14 = .ok (.getfield 15, 3) := by decide +kernel
theorem dX4_first_17 : decode cX4_first 17 = .ok (.iload_n 1, 1) := by decide +kernel
theorem dX4_first_18 : decode cX4_first 18 = .ok (.iaload, 1) := by decide +kernel
theorem dX4_first_19 : decode cX4_first 19 = .ok (.goto 4, 3) := by decide +kernel
theorem dX4_first_23 : decode cX4_first 23 = .ok (.ireturn, 1) := by decide +kernel
theorem dX4_first_4 : decode cX4_first 4 = .ok (.iload_n 1, 1) := by decide +kernel
theorem dX4_first_5 : decode cX4_first 5 = .ok (.aload_n 0, 1) := by decide +kernel
theorem dX4_first_6 : decode cX4_first 6 = .ok (.getfield 15, 3) := by decide +kernel
theorem dX4_first_9 : decode cX4_first 9 = .ok (.arraylength, 1) := by decide +kernel
theorem dX4_init_0 : decode cX4_init 0 = .ok (.aload_n 0, 1) := by decide +kernel
theorem dX4_init_1 : decode cX4_init 1 = .ok (.invokespecial 3, 3) := by decide +kernel
theorem dX4_init_12 : decode cX4_init 12 = .ok (.aload_n 0, 1) := by decide +kernel
theorem dX4_init_13 : decode cX4_init 13 = .ok (.bipush 20, 2) := by decide +kernel
theorem dX4_init_15 : decode cX4_init 15 = .ok (.newarray .int, 2) := by decide +kernel
theorem dX4_init_17 : decode cX4_init 17 = .ok (.putfield 15, 3) := by decide +kernel
theorem dX4_init_20 : decode cX4_init 20 = .ok (.aload_n 0, 1) := by decide +kernel
theorem dX4_init_21 : decode cX4_init 21 = .ok (.bipush 20, 2) := by decide +kernel
theorem dX4_init_23 : decode cX4_init 23 = .ok (.newarray .int, 2) := by decide +kernel
theorem dX4_init_25 : decode cX4_init 25 = .ok (.putfield 18, 3) := by decide +kernel
theorem dX4_init_28 : decode cX4_init 28 = .ok (.aload_n 0, 1) := by decide +kernel
theorem dX4_init_29 : decode cX4_init 29 = .ok (.iload_n 1, 1) := by decide +kernel
theorem dX4_init_30 : decode cX4_init 30 = .ok (.putfield 21, 3) := by decide +kernel
theorem dX4_init_33 : decode cX4_init 33 = .ok (.return_, 1) := by decide +kernel
theorem dX4_init_4 : decode cX4_init 4 = .ok (.aload_n 0, 1) := by decide +kernel
theorem dX4_init_5 : decode cX4_init 5 = .ok (.bipush 20, 2) := by decide +kernel
theorem dX4_init_7 : decode cX4_init 7 = .ok (.newarray .int, 2) := by decide +kernel
theorem dX4_init_9 : decode cX4_init 9 = .ok (.putfield 9, 3) := by decide +kernel
theorem dX4_operation_0 : decode cX4_operation 0 = .ok (.iload_n 1, 1) := by decide +kernel
theorem dX4_operation_1 : decode cX4_operation 1 = .ok (.ifCond .lt 21, 3) := by decide +kernel
theorem dX4_operation_10 : decode cX4_operation 10 = .ok (.if_icmp .ge 12, 3) := by decide +kernel
theorem dX4_operation_13 : decode cX4_operation 13 = .ok (.aload_n 0, 1) := by decide +kernel
theorem dX4_operation_14 : decode cX4_operation 14 = .ok (.getfield 9, 3) := by decide +kernel
theorem dX4_operation_17 : decode cX4_operation 17 = .ok (.iload_n 1, 1) := by decide +kernel
theorem dX4_operation_18 : decode cX4_operation 18 = .ok (.iaload, 1) := by decide +kernel
theorem dX4_operation_19 : decode cX4_operation 19 = .ok (.goto 4, 3) := by decide +kernel
theorem dX4_operation_23 : decode cX4_operation 23 = .ok (.ireturn, 1) := by decide +kernel
theorem dX4_operation_4 : decode cX4_operation 4 = .ok (.iload_n 1, 1) := by decide +kernel
theorem dX4_operation_5 : decode cX4_operation 5 = .ok (.aload_n 0, 1) := by decide +kernel
theorem dX4_operation_6 : decode cX4_operation 6 = .ok (.getfield 9, 3) := by decide +kernel
theorem dX4_operation_9 : decode cX4_operation 9 = .ok (.arraylength, 1) := by decide +kernel
theorem dX4_put_0 : decode cX4_put 0 = .ok (.iload_n 1, 1) := by decide +kernel
theorem dX4_put_1 : decode cX4_put 1 = .ok (.ifCond .lt 52, 3) := by decide +kernel
theorem dX4_put_10 : decode cX4_put 10 = .ok (.if_icmp .ge 43, 3) := by decide +kernel
theorem dX4_put_13 : decode cX4_put 13 = .ok (.iload_n 1, 1) := by decide +kernel
theorem dX4_put_14 : decode cX4_put 14 = .ok (.aload_n 0, 1) := by decide +kernel
theorem dX4_put_15 : decode cX4_put 15 = .ok (.getfield 15, 3) := by decide +kernel
theorem dX4_put_18 : decode cX4_put 18 = .ok (.arraylength, 1) := by decide +kernel
theorem dX4_put_19 : decode cX4_put 19 = .ok (.if_icmp .ge 34, 3) := by decide +kernel
theorem dX4_put_22 : decode cX4_put 22 = .ok (.iload_n 1, 1) := by decide +kernel
theorem dX4_put_23 : decode cX4_put 23 = .ok (.aload_n 0, 1) := by decide +kernel
theorem dX4_put_24 : decode cX4_put 24 = .ok (.getfield 18, 3) := by decide +kernel
theorem dX4_put_27 : decode cX4_put 27 = .ok (.arraylength, 1) := by decide +kernel
theorem dX4_put_28 : decode cX4_put 28 = .ok (.if_icmp .ge 25, 3) := by decide +kernel
theorem dX4_put_31 : decode cX4_put 31 = .ok (.aload_n 0, 1) := by decide +kernel
theorem dX4_put_32 : decode cX4_put 32 = .ok (.getfield 9, 3) := by decide +kernel
theorem dX4_put_35 : decode cX4_put 35 = .ok (.iload_n 1, 1) := by decide +kernel
theorem dX4_put_36 : decode cX4_put 36 = .ok (.iload_n 2, 1) := by decide +kernel
theorem dX4_put_37 : decode cX4_put 37 = .ok (.iastore, 1) := by decide +kernel
theorem dX4_put_38 : decode cX4_put 38 = .ok (.aload_n 0, 1) := by decide +kernel
theorem dX4_put_39 : decode cX4_put 39 = .ok (.getfield 15, 3) := by decide +kernel
theorem dX4_put_4 : decode cX4_put 4 = .ok (.iload_n 1, 1) := by decide +kernel
theorem dX4_put_42 : decode cX4_put 42 = .ok (.iload_n 1, 1) := by decide +kernel
theorem dX4_put_43 : decode cX4_put 43 = .ok (.iload_n 3, 1) := by decide +kernel
theorem dX4_put_44 : decode cX4_put 44 = .ok (.iastore, 1) := by decide +kernel
theorem dX4_put_45 : decode cX4_put 45 = .ok (.aload_n 0, 1) := by decide +kernel
theorem dX4_put_46 : decode cX4_put 46 = .ok (.getfield 18, 3) := by decide +kernel
theorem dX4_put_49 : decode cX4_put 49 = .ok (.iload_n 1, 1) := by decide +kernel
theorem dX4_put_5 : decode cX4_put 5 = .ok (.aload_n 0, 1) := by decide +kernel
theorem dX4_put_50 : decode cX4_put 50 = .ok (.iload 4, 2) := by decide +kernel
theorem dX4_put_52 : decode cX4_put 52 = .ok (.iastore, 1) := by decide +kernel
theorem dX4_put_53 : decode cX4_put 53 = .ok (.return_, 1) := by decide +kernel
theorem dX4_put_6 : decode cX4_put 6 = .ok (.getfield 9, 3) := by decide +kernel
theorem dX4_put_9 : decode cX4_put 9 = .ok (.arraylength, 1) := by decide +kernel
theorem dX4_second_0 : decode cX4_second 0 = .ok (.iload_n 1, 1) := by decide +kernel
theorem dX4_second_1 : decode cX4_second 1 = .ok (.ifCond .lt 21, 3) := by decide +kernel
theorem dX4_second_10 : decode cX4_second 10 = .ok (.if_icmp .ge 12, 3) := by decide +kernel
theorem dX4_second_13 : decode cX4_second 13 = .ok (.aload_n 0, 1) := by decide +kernel
theorem dX4_second_14 : decode cX4_second 14 = .ok (.getfield 18, 3) := by decide +kernel
theorem dX4_second_17 : decode cX4_second 17 = .ok (.iload_n 1, 1) := by decide +kernel
theorem dX4_second_18 : decode cX4_second 18 = .ok (.iaload, 1) := by decide +kernel
theorem dX4_second_19 : decode cX4_second 19 = .ok (.goto 4, 3) := by decide +kernel
theorem dX4_second_23 : decode cX4_second 23 = .ok (.ireturn, 1) := by decide +kernel
theorem dX4_second_4 : decode cX4_second 4 = .ok (.iload_n 1, 1) := by decide +kernel
theorem dX4_second_5 : decode cX4_second 5 = .ok (.aload_n 0, 1) := by decide +kernel
theorem dX4_second_6 : decode cX4_second 6 = .ok (.getfield 18, 3) := by decide +kernel
theorem dX4_second_9 : decode cX4_second 9 = .ok (.arraylength, 1) := by decide +kernel
theorem dX5_advance_0 : decode cX5_advance 0 = .ok (.iconst 1, 1) := by decide +kernel
theorem dX5_advance_1 : decode cX5_advance 1 = .ok (.istore_n 2, 1) := by decide +kernel
theorem dX5_advance_10 : decode cX5_advance 10 = .ok (.iload_n 2, 1) := by decide +kernel
theorem dX5_advance_102 : decode cX5_advance 102 = .ok (.ifCond .eq 10, 3) := by decide +kernel
theorem dX5_advance_11 : decode cX5_advance 11 = .ok (.ifCond .eq 111, 3) := by decide +kernel
theorem dX5_advance_112 : decode cX5_advance 112 = .ok (.aload_n 0, 1) := by decide +kernel
theorem dX5_advance_113 : decode cX5_advance 113 = .ok (.invokevirtual 105, 3) := by decide +kernel
theorem dX5_advance_116 : decode cX5_advance 116 = .ok (.iinc 3 1, 3) := by decide +kernel
theorem dX5_advance_119 : decode cX5_advance 119 = .ok (.goto (-115), 3) := by decide +kernel
theorem dX5_advance_122 : decode cX5_advance 122 = .ok (.return_, 1) := by decide +kernel
theorem dX5_advance_14 : decode cX5_advance 14 = .ok (.aload_n 0, 1) := by decide +kernel
theorem dX5_advance_15 : decode cX5_advance 15 = .ok (.getfield 38, 3) := by decide +kernel
theorem dX5_advance_18 : decode cX5_advance 18 = .ok (.iload_n 1, 1) := by decide +kernel
theorem dX5_advance_19 : decode cX5_advance 19 = .ok (.if_icmp .ge 7, 3) := by decide +kernel
theorem dX5_advance_2 : decode cX5_advance 2 = .ok (.iconst 0, 1) := by decide +kernel
theorem dX5_advance_22 : decode cX5_advance 22 = .ok (.iconst 1, 1) := by decide +kernel
theorem dX5_advance_23 : decode cX5_advance 23 = .ok (.goto 4, 3) := by decide +kernel
theorem dX5_advance_26 : decode cX5_advance 26 = .ok (.iconst 0, 1) := by decide +kernel
theorem dX5_advance_27 : decode cX5_advance 27 = .ok (.istore 4, 2) := by decide +kernel
theorem dX5_advance_29 : decode cX5_advance 29 = .ok (.aload_n 0, 1) := by decide +kernel
theorem dX5_advance_3 : decode cX5_advance 3 = .ok (.istore_n 3, 1) := by decide +kernel
theorem dX5_advance_30 : decode cX5_advance 30 = .ok (.getfield 91, 3) := by decide +kernel
theorem dX5_advance_33 : decode cX5_advance 33 = .ok (.ifCond .eq 8, 3) := by decide +kernel
theorem dX5_advance_4 : decode cX5_advance 4 = .ok (.iload_n 3, 1) := by decide +kernel
theorem dX5_advance_41 : decode cX5_advance 41 = .ok (.aload_n 0, 1) := by decide +kernel
theorem dX5_advance_42 : decode cX5_advance 42 = .ok (.getfield 82, 3) := by decide +kernel
theorem dX5_advance_45 : decode cX5_advance 45 = .ok (.iconst (-1), 1) := by decide +kernel
theorem dX5_advance_46 : decode cX5_advance 46 = .ok (.if_icmp .eq 15, 3) := by decide +kernel
theorem dX5_advance_49 : decode cX5_advance 49 = .ok (.iload 4, 2) := by decide +kernel
theorem dX5_advance_5 : decode cX5_advance 5 = .ok (.ldc 94, 2) := by decide +kernel
theorem dX5_advance_51 : decode cX5_advance 51 = .ok (.istore_n 2, 1) := by decide +kernel
theorem dX5_advance_52 : decode cX5_advance 52 = .ok (.aload_n 0, 1) := by decide +kernel
theorem dX5_advance_53 : decode cX5_advance 53 = .ok (.iload 4, 2) := by decide +kernel
theorem dX5_advance_55 : decode cX5_advance 55 = .ok (.invokevirtual 95, 3) := by decide +kernel
theorem dX5_advance_58 : decode cX5_advance 58 = .ok (.goto 58, 3) := by decide +kernel
theorem dX5_advance_61 : decode cX5_advance 61 = .ok (.aload_n 0, 1) := by decide +kernel
theorem dX5_advance_62 : decode cX5_advance 62 = .ok (.getfield 79, 3) := by decide +kernel
theorem dX5_advance_65 : decode cX5_advance 65 = .ok (.ifCond .eq 14, 3) := by decide +kernel
theorem dX5_advance_68 : decode cX5_advance 68 = .ok (.aload_n 0, 1) := by decide +kernel
theorem dX5_advance_69 : decode cX5_advance 69 = .ok (.iload 4, 2) := by decide +kernel
theorem dX5_advance_7 : decode cX5_advance 7 = .ok (.if_icmp .ge 115, 3) := by decide +kernel
theorem dX5_advance_71 : decode cX5_advance 71 = .ok (.putfield 91, 3) := by decide +kernel
theorem dX5_advance_74 : decode cX5_advance 74 = .ok (.iconst 0, 1) := by decide +kernel
theorem dX5_advance_75 : decode cX5_advance 75 = .ok (.istore_n 2, 1) := by decide +kernel
theorem dX5_advance_76 : decode cX5_advance 76 = .ok (.goto 40, 3) := by decide +kernel
theorem dX5_advance_79 : decode cX5_advance 79 = .ok (.aload_n 0, 1) := by decide +kernel
theorem dX5_advance_80 : decode cX5_advance 80 = .ok (.getfield 56, 3) := by decide +kernel
theorem dX5_advance_83 : decode cX5_advance 83 = .ok (.ifCond .eq 15, 3) := by decide +kernel
theorem dX5_advance_98 : decode cX5_advance 98 = .ok (.aload_n 0, 1) := by decide +kernel
theorem dX5_advance_99 : decode cX5_advance 99 = .ok (.getfield 76, 3) := by decide +kernel
theorem dX5_begin_0 : decode cX5_begin 0 = .ok (.aload_n 0, 1) := by decide +kernel
theorem dX5_begin_1 : decode cX5_begin 1 = .ok (.aload_n 1, 1) := by decide +kernel
theorem dX5_begin_10 : decode cX5_begin 10 = .ok (.aload_n 0, 1) := by decide +kernel
theorem dX5_begin_101 : decode cX5_begin 101 = .ok (.aload_n 0, 1) := by decide +kernel
theorem dX5_begin_102 : decode cX5_begin 102 = .ok (.iconst (-1), 1) := by decide +kernel
theorem dX5_begin_103 : decode cX5_begin 103 = .ok (.putfield 88, 3) := by decide +kernel
theorem dX5_begin_106 : decode cX5_begin 106 = .ok (.aload_n 0, 1) := by decide +kernel
theorem dX5_begin_107 : decode cX5_begin 107 = .ok (.iconst 0, 1) := by decide +kernel
theorem dX5_begin_108 : decode cX5_begin 108 = .ok (.putfield 91, 3) := by decide +kernel
theorem dX5_begin_11 : decode cX5_begin 11 = .ok (.getfield 12, 3) := by decide +kernel
theorem dX5_begin_111 : decode cX5_begin 111 = .ok (.return_, 1) := by decide +kernel
theorem dX5_begin_14 : decode cX5_begin 14 = .ok (.iconst 0, 1) := by decide +kernel
theorem dX5_begin_15 : decode cX5_begin 15 = .ok (.putfield 33, 3) := by decide +kernel
theorem dX5_begin_18 : decode cX5_begin 18 = .ok (.aload_n 0, 1) := by decide +kernel
theorem dX5_begin_19 : decode cX5_begin 19 = .ok (.getfield 21, 3) := by decide +kernel
theorem dX5_begin_2 : decode cX5_begin 2 = .ok (.putfield 25, 3) := by decide +kernel
theorem dX5_begin_22 : decode cX5_begin 22 = .ok (.iconst 0, 1) := by decide +kernel
theorem dX5_begin_23 : decode cX5_begin 23 = .ok (.putfield 37, 3) := by decide +kernel
theorem dX5_begin_26 : decode cX5_begin 26 = .ok (.aload_n 0, 1) := by decide +kernel
theorem dX5_begin_27 : decode cX5_begin 27 = .ok (.iconst 1, 1) := by decide +kernel
theorem dX5_begin_28 : decode cX5_begin 28 = .ok (.putfield 38, 3) := by decide +kernel
theorem dX5_begin_31 : decode cX5_begin 31 = .ok (.aload_n 0, 1) := by decide +kernel
theorem dX5_begin_32 : decode cX5_begin 32 = .ok (.iconst 0, 1) := by decide +kernel
theorem dX5_begin_33 : decode cX5_begin 33 = .ok (.putfield 41, 3) := by decide +kernel
theorem dX5_begin_36 : decode cX5_begin 36 = .ok (.aload_n 0, 1) := by decide +kernel
theorem dX5_begin_37 : decode cX5_begin 37 = .ok (.aload_n 2, 1) := by decide +kernel
theorem dX5_begin_38 : decode cX5_begin 38 = .ok (.iconst 0, 1) := by decide +kernel
theorem dX5_begin_39 : decode cX5_begin 39 = .ok (.invokevirtual 44, 3) := by decide +kernel
theorem dX5_begin_42 : decode cX5_begin 42 = .ok (.l2i, 1) := by decide +kernel
theorem dX5_begin_43 : decode cX5_begin 43 = .ok (.putfield 50, 3) := by decide +kernel
theorem dX5_begin_46 : decode cX5_begin 46 = .ok (.aload_n 0, 1) := by decide +kernel
theorem dX5_begin_47 : decode cX5_begin 47 = .ok (.iconst 0, 1) := by decide +kernel
theorem dX5_begin_48 : decode cX5_begin 48 = .ok (.putfield 53, 3) := by decide +kernel
theorem dX5_begin_5 : decode cX5_begin 5 = .ok (.aload_n 0, 1) := by decide +kernel
theorem dX5_begin_51 : decode cX5_begin 51 = .ok (.aload_n 0, 1) := by decide +kernel
theorem dX5_begin_52 : decode cX5_begin 52 = .ok (.iconst 0, 1) := by decide +kernel
theorem dX5_begin_53 : decode cX5_begin 53 = .ok (.putfield 56, 3) := by decide +kernel
theorem dX5_begin_56 : decode cX5_begin 56 = .ok (.aload_n 0, 1) := by decide +kernel
theorem dX5_begin_57 : decode cX5_begin 57 = .ok (.iconst (-1), 1) := by decide +kernel
theorem dX5_begin_58 : decode cX5_begin 58 = .ok (.putfield 59, 3) := by decide +kernel
theorem dX5_begin_6 : decode cX5_begin 6 = .ok (.aload_n 2, 1) := by decide +kernel
theorem dX5_begin_61 : decode cX5_begin 61 = .ok (.aload_n 0, 1) := by decide +kernel
theorem dX5_begin_62 : decode cX5_begin 62 = .ok (.iconst (-1), 1) := by decide +kernel
theorem dX5_begin_63 : decode cX5_begin 63 = .ok (.putfield 62, 3) := by decide +kernel
theorem dX5_begin_66 : decode cX5_begin 66 = .ok (.aload_n 0, 1) := by decide +kernel
theorem dX5_begin_67 : decode cX5_begin 67 = .ok (.lconst 0, 1) := by decide +kernel
theorem dX5_begin_68 : decode cX5_begin 68 = .ok (.putfield 65, 3) := by decide +kernel
theorem dX5_begin_7 : decode cX5_begin 7 = .ok (.putfield 29, 3) := by decide +kernel
theorem dX5_begin_71 : decode cX5_begin 71 = .ok (.aload_n 0, 1) := by decide +kernel
theorem dX5_begin_72 : decode cX5_begin 72 = .ok (.iconst 0, 1) := by decide +kernel
theorem dX5_begin_73 : decode cX5_begin 73 = .ok (.putfield 69, 3) := by decide +kernel
theorem dX5_begin_76 : decode cX5_begin 76 = .ok (.aload_n 0, 1) := by decide +kernel
theorem dX5_begin_77 : decode cX5_begin 77 = .ok (.iconst 0, 1) := by decide +kernel
theorem dX5_begin_78 : decode cX5_begin 78 = .ok (.putfield 73, 3) := by decide +kernel
theorem dX5_begin_81 : decode cX5_begin 81 = .ok (.aload_n 0, 1) := by decide +kernel
theorem dX5_begin_82 : decode cX5_begin 82 = .ok (.iconst 0, 1) := by decide +kernel
theorem dX5_begin_83 : decode cX5_begin 83 = .ok (.putfield 76, 3) := by decide +kernel
theorem dX5_begin_86 : decode cX5_begin 86 = .ok (.aload_n 0, 1) := by decide +kernel
theorem dX5_begin_87 : decode cX5_begin 87 = .ok (.iconst 0, 1) := by decide +kernel
theorem dX5_begin_88 : decode cX5_begin 88 = .ok (.putfield 79, 3) := by decide +kernel
theorem dX5_begin_91 : decode cX5_begin 91 = .ok (.aload_n 0, 1) := by decide +kernel
theorem dX5_begin_92 : decode cX5_begin 92 = .ok (.iconst (-1), 1) := by decide +kernel
theorem dX5_begin_93 : decode cX5_begin 93 = .ok (.putfield 82, 3) := by decide +kernel
theorem dX5_begin_96 : decode cX5_begin 96 = .ok (.aload_n 0, 1) := by decide +kernel
theorem dX5_begin_97 : decode cX5_begin 97 = .ok (.lconst 0, 1) := by decide +kernel
theorem dX5_begin_98 : decode cX5_begin 98 = .ok (.putfield 85, 3) := by decide +kernel
theorem dX5_follow_0 : decode cX5_follow 0 = .ok (.iload_n 1, 1) := by decide +kernel
theorem dX5_follow_1 : decode cX5_follow 1 = .ok (.tableswitch 186 1 14 #[71, 186, 186, 88, 186, 186, 113, 186, 169, 178, 79, 186, 186, 127], 71) := by decide +kernel
theorem dX5_follow_187 : decode cX5_follow 187 = .ok (.aload_n 0, 1) := by decide +kernel
theorem dX5_follow_188 : decode cX5_follow 188 = .ok (.iconst 1, 1) := by decide +kernel
theorem dX5_follow_189 : decode cX5_follow 189 = .ok (.putfield 79, 3) := by decide +kernel
theorem dX5_follow_192 : decode cX5_follow 192 = .ok (.return_, 1) := by decide +kernel
theorem dX5_init_0 : decode cX5_init 0 = .ok (.aload_n 0, 1) := by decide +kernel
theorem dX5_init_1 : decode cX5_init 1 = .ok (.invokespecial 3, 3) := by decide +kernel
theorem dX5_init_12 : decode cX5_init 12 = .ok (.putfield 12, 3) := by decide +kernel
theorem dX5_init_15 : decode cX5_init 15 = .ok (.aload_n 0, 1) := by decide +kernel
theorem dX5_init_16 : decode cX5_init 16 = .ok (.new 18, 3) := by decide +kernel
theorem dX5_init_19 : decode cX5_init 19 = .ok (.dup, 1) := by decide +kernel
theorem dX5_init_20 : decode cX5_init 20 = .ok (.invokespecial 20, 3) := by decide +kernel
theorem dX5_init_23 : decode cX5_init 23 = .ok (.putfield 21, 3) := by decide +kernel
theorem dX5_init_26 : decode cX5_init 26 = .ok (.aload_n 0, 1) := by decide +kernel
theorem dX5_init_27 : decode cX5_init 27 = .ok (.aload_n 1, 1) := by decide +kernel
theorem dX5_init_28 : decode cX5_init 28 = .ok (.putfield 25, 3) := by decide +kernel
theorem dX5_init_31 : decode cX5_init 31 = .ok (.aload_n 0, 1) := by decide +kernel
theorem dX5_init_32 : decode cX5_init 32 = .ok (.aload_n 2, 1) := by decide +kernel
theorem dX5_init_33 : decode cX5_init 33 = .ok (.putfield 29, 3) := by decide +kernel
theorem dX5_init_36 : decode cX5_init 36 = .ok (.return_, 1) := by decide +kernel
theorem dX5_init_4 : decode cX5_init 4 = .ok (.aload_n 0, 1) := by decide +kernel
theorem dX5_init_5 : decode cX5_init 5 = .ok (.new 9, 3) := by decide +kernel
theorem dX5_init_8 : decode cX5_init 8 = .ok (.dup, 1) := by decide +kernel
theorem dX5_init_9 : decode cX5_init 9 = .ok (.invokespecial 11, 3) := by decide +kernel
theorem dX5_isRefused_0 : decode cX5_isRefused 0 = .ok (.iload_n 1, 1) := by decide +kernel
theorem dX5_isRefused_1 : decode cX5_isRefused 1 = .ok (.tableswitch 133 1 17 #[118, 118, 133, 91, 133, 133, 133, 133, 118, 118, 118, 83, 133, 118, 133, 133, 118], 83) := by decide +kernel
theorem dX5_isRefused_134 : decode cX5_isRefused 134 = .ok (.iconst 0, 1) := by decide +kernel
theorem dX5_isRefused_135 : decode cX5_isRefused 135 = .ok (.ireturn, 1) := by decide +kernel
theorem dX5_step_0 : decode cX5_step 0 = .ok (.aload_n 0, 1) := by decide +kernel
theorem dX5_step_1 : decode cX5_step 1 = .ok (.getfield 25, 3) := by decide +kernel
theorem dX5_step_11 : decode cX5_step 11 = .ok (.istore_n 1, 1) := by decide +kernel
theorem dX5_step_12 : decode cX5_step 12 = .ok (.aload_n 0, 1) := by decide +kernel
theorem dX5_step_13 : decode cX5_step 13 = .ok (.getfield 25, 3) := by decide +kernel
theorem dX5_step_16 : decode cX5_step 16 = .ok (.aload_n 0, 1) := by decide +kernel
theorem dX5_step_17 : decode cX5_step 17 = .ok (.getfield 41, 3) := by decide +kernel
theorem dX5_step_20 : decode cX5_step 20 = .ok (.invokevirtual 160, 3) := by decide +kernel
theorem dX5_step_23 : decode cX5_step 23 = .ok (.istore_n 2, 1) := by decide +kernel
theorem dX5_step_24 : decode cX5_step 24 = .ok (.aload_n 0, 1) := by decide +kernel
theorem dX5_step_25 : decode cX5_step 25 = .ok (.getfield 25, 3) := by decide +kernel
theorem dX5_step_276 : decode cX5_step 276 = .ok (.aload_n 0, 1) := by decide +kernel
theorem dX5_step_277 : decode cX5_step 277 = .ok (.bipush 13, 2) := by decide +kernel
theorem dX5_step_279 : decode cX5_step 279 = .ok (.ldc2_w 112, 3) := by decide +kernel
theorem dX5_step_28 : decode cX5_step 28 = .ok (.aload_n 0, 1) := by decide +kernel
theorem dX5_step_282 : decode cX5_step 282 = .ok (.aload_n 0, 1) := by decide +kernel
theorem dX5_step_283 : decode cX5_step 283 = .ok (.getfield 50, 3) := by decide +kernel
theorem dX5_step_286 : decode cX5_step 286 = .ok (.i2l, 1) := by decide +kernel
theorem dX5_step_287 : decode cX5_step 287 = .ok (.lmul, 1) := by decide +kernel
theorem dX5_step_288 : decode cX5_step 288 = .ok (.lconst 1, 1) := by decide +kernel
theorem dX5_step_289 : decode cX5_step 289 = .ok (.ladd, 1) := by decide +kernel
theorem dX5_step_29 : decode cX5_step 29 = .ok (.getfield 41, 3) := by decide +kernel
theorem dX5_step_290 : decode cX5_step 290 = .ok (.invokevirtual 114, 3) := by decide +kernel
theorem dX5_step_293 : decode cX5_step 293 = .ok (.goto 9, 3) := by decide +kernel
theorem dX5_step_302 : decode cX5_step 302 = .ok (.return_, 1) := by decide +kernel
theorem dX5_step_32 : decode cX5_step 32 = .ok (.invokevirtual 163, 3) := by decide +kernel
theorem dX5_step_35 : decode cX5_step 35 = .ok (.istore_n 3, 1) := by decide +kernel
theorem dX5_step_36 : decode cX5_step 36 = .ok (.aload_n 0, 1) := by decide +kernel
theorem dX5_step_37 : decode cX5_step 37 = .ok (.aload_n 0, 1) := by decide +kernel
theorem dX5_step_38 : decode cX5_step 38 = .ok (.getfield 41, 3) := by decide +kernel
theorem dX5_step_4 : decode cX5_step 4 = .ok (.aload_n 0, 1) := by decide +kernel
theorem dX5_step_41 : decode cX5_step 41 = .ok (.iconst 1, 1) := by decide +kernel
theorem dX5_step_42 : decode cX5_step 42 = .ok (.iadd, 1) := by decide +kernel
theorem dX5_step_43 : decode cX5_step 43 = .ok (.bipush 20, 2) := by decide +kernel
theorem dX5_step_45 : decode cX5_step 45 = .ok (.irem, 1) := by decide +kernel
theorem dX5_step_46 : decode cX5_step 46 = .ok (.putfield 41, 3) := by decide +kernel
theorem dX5_step_49 : decode cX5_step 49 = .ok (.aload_n 0, 1) := by decide +kernel
theorem dX5_step_5 : decode cX5_step 5 = .ok (.getfield 41, 3) := by decide +kernel
theorem dX5_step_50 : decode cX5_step 50 = .ok (.dup, 1) := by decide +kernel
theorem dX5_step_51 : decode cX5_step 51 = .ok (.getfield 53, 3) := by decide +kernel
theorem dX5_step_54 : decode cX5_step 54 = .ok (.iconst 1, 1) := by decide +kernel
theorem dX5_step_55 : decode cX5_step 55 = .ok (.iadd, 1) := by decide +kernel
theorem dX5_step_56 : decode cX5_step 56 = .ok (.putfield 53, 3) := by decide +kernel
theorem dX5_step_59 : decode cX5_step 59 = .ok (.aload_n 0, 1) := by decide +kernel
theorem dX5_step_60 : decode cX5_step 60 = .ok (.getfield 53, 3) := by decide +kernel
theorem dX5_step_63 : decode cX5_step 63 = .ok (.bipush 60, 2) := by decide +kernel
theorem dX5_step_65 : decode cX5_step 65 = .ok (.if_icmp .gt 12, 3) := by decide +kernel
theorem dX5_step_68 : decode cX5_step 68 = .ok (.aload_n 0, 1) := by decide +kernel
theorem dX5_step_69 : decode cX5_step 69 = .ok (.iload_n 1, 1) := by decide +kernel
theorem dX5_step_70 : decode cX5_step 70 = .ok (.iload_n 2, 1) := by decide +kernel
theorem dX5_step_71 : decode cX5_step 71 = .ok (.invokevirtual 166, 3) := by decide +kernel
theorem dX5_step_74 : decode cX5_step 74 = .ok (.ifCond .eq 8, 3) := by decide +kernel
theorem dX5_step_8 : decode cX5_step 8 = .ok (.invokevirtual 155, 3) := by decide +kernel
theorem dX5_step_82 : decode cX5_step 82 = .ok (.iload_n 1, 1) := by decide +kernel
theorem dX5_step_83 : decode cX5_step 83 = .ok (.tableswitch 213 0 17 #[193, 85, 95, 114, 122, 213, 213, 213, 213, 131, 145, 171, 213, 213, 182, 213, 213, 159], 85) := by decide +kernel
theorem dX5_takeWanted_0 : decode cX5_takeWanted 0 = .ok (.iload_n 1, 1) := by decide +kernel
theorem dX5_takeWanted_1 : decode cX5_takeWanted 1 = .ok (.ifCond .ne 4, 3) := by decide +kernel
theorem dX5_takeWanted_10 : decode cX5_takeWanted 10 = .ok (.getfield 38, 3) := by decide +kernel
theorem dX5_takeWanted_102 : decode cX5_takeWanted 102 = .ok (.iload_n 2, 1) := by decide +kernel
theorem dX5_takeWanted_103 : decode cX5_takeWanted 103 = .ok (.bipush 7, 2) := by decide +kernel
theorem dX5_takeWanted_105 : decode cX5_takeWanted 105 = .ok (.if_icmp .eq 9, 3) := by decide +kernel
theorem dX5_takeWanted_108 : decode cX5_takeWanted 108 = .ok (.iload_n 2, 1) := by decide +kernel
theorem dX5_takeWanted_109 : decode cX5_takeWanted 109 = .ok (.bipush 14, 2) := by decide +kernel
theorem dX5_takeWanted_111 : decode cX5_takeWanted 111 = .ok (.if_icmp .ne 10, 3) := by decide +kernel
theorem dX5_takeWanted_121 : decode cX5_takeWanted 121 = .ok (.aload_n 0, 1) := by decide +kernel
theorem dX5_takeWanted_122 : decode cX5_takeWanted 122 = .ok (.iload_n 2, 1) := by decide +kernel
theorem dX5_takeWanted_123 : decode cX5_takeWanted 123 = .ok (.lload_n 3, 1) := by decide +kernel
theorem dX5_takeWanted_124 : decode cX5_takeWanted 124 = .ok (.invokevirtual 125, 3) := by decide +kernel
theorem dX5_takeWanted_127 : decode cX5_takeWanted 127 = .ok (.goto 30, 3) := by decide +kernel
theorem dX5_takeWanted_13 : decode cX5_takeWanted 13 = .ok (.invokevirtual 118, 3) := by decide +kernel
theorem dX5_takeWanted_157 : decode cX5_takeWanted 157 = .ok (.return_, 1) := by decide +kernel
theorem dX5_takeWanted_16 : decode cX5_takeWanted 16 = .ok (.istore_n 2, 1) := by decide +kernel
theorem dX5_takeWanted_17 : decode cX5_takeWanted 17 = .ok (.aload_n 0, 1) := by decide +kernel
theorem dX5_takeWanted_18 : decode cX5_takeWanted 18 = .ok (.getfield 29, 3) := by decide +kernel
theorem dX5_takeWanted_21 : decode cX5_takeWanted 21 = .ok (.aload_n 0, 1) := by decide +kernel
theorem dX5_takeWanted_22 : decode cX5_takeWanted 22 = .ok (.getfield 38, 3) := by decide +kernel
theorem dX5_takeWanted_25 : decode cX5_takeWanted 25 = .ok (.invokevirtual 44, 3) := by decide +kernel
theorem dX5_takeWanted_28 : decode cX5_takeWanted 28 = .ok (.lstore_n 3, 1) := by decide +kernel
theorem dX5_takeWanted_29 : decode cX5_takeWanted 29 = .ok (.iload_n 2, 1) := by decide +kernel
theorem dX5_takeWanted_30 : decode cX5_takeWanted 30 = .ok (.iconst 4, 1) := by decide +kernel
theorem dX5_takeWanted_31 : decode cX5_takeWanted 31 = .ok (.if_icmp .eq 21, 3) := by decide +kernel
theorem dX5_takeWanted_34 : decode cX5_takeWanted 34 = .ok (.iload_n 2, 1) := by decide +kernel
theorem dX5_takeWanted_35 : decode cX5_takeWanted 35 = .ok (.bipush 7, 2) := by decide +kernel
theorem dX5_takeWanted_37 : decode cX5_takeWanted 37 = .ok (.if_icmp .eq 15, 3) := by decide +kernel
theorem dX5_takeWanted_4 : decode cX5_takeWanted 4 = .ok (.return_, 1) := by decide +kernel
theorem dX5_takeWanted_40 : decode cX5_takeWanted 40 = .ok (.iload_n 2, 1) := by decide +kernel
theorem dX5_takeWanted_41 : decode cX5_takeWanted 41 = .ok (.bipush 9, 2) := by decide +kernel
theorem dX5_takeWanted_43 : decode cX5_takeWanted 43 = .ok (.if_icmp .eq 9, 3) := by decide +kernel
theorem dX5_takeWanted_46 : decode cX5_takeWanted 46 = .ok (.iload_n 2, 1) := by decide +kernel
theorem dX5_takeWanted_47 : decode cX5_takeWanted 47 = .ok (.bipush 14, 2) := by decide +kernel
theorem dX5_takeWanted_49 : decode cX5_takeWanted 49 = .ok (.if_icmp .ne 7, 3) := by decide +kernel
theorem dX5_takeWanted_5 : decode cX5_takeWanted 5 = .ok (.aload_n 0, 1) := by decide +kernel
theorem dX5_takeWanted_56 : decode cX5_takeWanted 56 = .ok (.iconst 0, 1) := by decide +kernel
theorem dX5_takeWanted_57 : decode cX5_takeWanted 57 = .ok (.istore 5, 2) := by decide +kernel
theorem dX5_takeWanted_59 : decode cX5_takeWanted 59 = .ok (.iload_n 2, 1) := by decide +kernel
theorem dX5_takeWanted_6 : decode cX5_takeWanted 6 = .ok (.getfield 29, 3) := by decide +kernel
theorem dX5_takeWanted_60 : decode cX5_takeWanted 60 = .ok (.aload_n 0, 1) := by decide +kernel
theorem dX5_takeWanted_61 : decode cX5_takeWanted 61 = .ok (.getfield 82, 3) := by decide +kernel
theorem dX5_takeWanted_64 : decode cX5_takeWanted 64 = .ok (.if_icmp .ne 66, 3) := by decide +kernel
theorem dX5_takeWanted_67 : decode cX5_takeWanted 67 = .ok (.iload 5, 2) := by decide +kernel
theorem dX5_takeWanted_69 : decode cX5_takeWanted 69 = .ok (.ifCond .ne 12, 3) := by decide +kernel
theorem dX5_takeWanted_72 : decode cX5_takeWanted 72 = .ok (.lload_n 3, 1) := by decide +kernel
theorem dX5_takeWanted_73 : decode cX5_takeWanted 73 = .ok (.aload_n 0, 1) := by decide +kernel
theorem dX5_takeWanted_74 : decode cX5_takeWanted 74 = .ok (.getfield 85, 3) := by decide +kernel
theorem dX5_takeWanted_77 : decode cX5_takeWanted 77 = .ok (.lcmp, 1) := by decide +kernel
theorem dX5_takeWanted_78 : decode cX5_takeWanted 78 = .ok (.ifCond .ne 52, 3) := by decide +kernel
theorem dX5_takeWanted_81 : decode cX5_takeWanted 81 = .ok (.aload_n 0, 1) := by decide +kernel
theorem dX5_takeWanted_82 : decode cX5_takeWanted 82 = .ok (.iconst (-1), 1) := by decide +kernel
theorem dX5_takeWanted_83 : decode cX5_takeWanted 83 = .ok (.putfield 82, 3) := by decide +kernel
theorem dX5_takeWanted_86 : decode cX5_takeWanted 86 = .ok (.aload_n 0, 1) := by decide +kernel
theorem dX5_takeWanted_87 : decode cX5_takeWanted 87 = .ok (.dup, 1) := by decide +kernel
theorem dX5_takeWanted_88 : decode cX5_takeWanted 88 = .ok (.getfield 38, 3) := by decide +kernel
theorem dX5_takeWanted_9 : decode cX5_takeWanted 9 = .ok (.aload_n 0, 1) := by decide +kernel
theorem dX5_takeWanted_91 : decode cX5_takeWanted 91 = .ok (.iconst 1, 1) := by decide +kernel
theorem dX5_takeWanted_92 : decode cX5_takeWanted 92 = .ok (.iadd, 1) := by decide +kernel
theorem dX5_takeWanted_93 : decode cX5_takeWanted 93 = .ok (.putfield 38, 3) := by decide +kernel
theorem dX5_takeWanted_96 : decode cX5_takeWanted 96 = .ok (.lload_n 3, 1) := by decide +kernel
theorem dX5_takeWanted_97 : decode cX5_takeWanted 97 = .ok (.lconst 0, 1) := by decide +kernel
theorem dX5_takeWanted_98 : decode cX5_takeWanted 98 = .ok (.lcmp, 1) := by decide +kernel
theorem dX5_takeWanted_99 : decode cX5_takeWanted 99 = .ok (.ifCond .ge 22, 3) := by decide +kernel
theorem dX5_want_0 : decode cX5_want 0 = .ok (.aload_n 0, 1) := by decide +kernel
theorem dX5_want_1 : decode cX5_want 1 = .ok (.iload_n 1, 1) := by decide +kernel
theorem dX5_want_10 : decode cX5_want 10 = .ok (.return_, 1) := by decide +kernel
theorem dX5_want_2 : decode cX5_want 2 = .ok (.putfield 82, 3) := by decide +kernel
theorem dX5_want_5 : decode cX5_want 5 = .ok (.aload_n 0, 1) := by decide +kernel
theorem dX5_want_6 : decode cX5_want 6 = .ok (.lload_n 2, 1) := by decide +kernel
theorem dX5_want_7 : decode cX5_want 7 = .ok (.putfield 85, 3) := by decide +kernel
theorem dX5_wantsEvent_0 : decode cX5_wantsEvent 0 = .ok (.aload_n 0, 1) := by decide +kernel
theorem dX5_wantsEvent_1 : decode cX5_wantsEvent 1 = .ok (.getfield 91, 3) := by decide +kernel
theorem dX5_wantsEvent_11 : decode cX5_wantsEvent 11 = .ok (.iconst (-1), 1) := by decide +kernel
theorem dX5_wantsEvent_12 : decode cX5_wantsEvent 12 = .ok (.if_icmp .eq 7, 3) := by decide +kernel
theorem dX5_wantsEvent_15 : decode cX5_wantsEvent 15 = .ok (.iconst 1, 1) := by decide +kernel
theorem dX5_wantsEvent_16 : decode cX5_wantsEvent 16 = .ok (.goto 4, 3) := by decide +kernel
theorem dX5_wantsEvent_19 : decode cX5_wantsEvent 19 = .ok (.iconst 0, 1) := by decide +kernel
theorem dX5_wantsEvent_20 : decode cX5_wantsEvent 20 = .ok (.ireturn, 1) := by decide +kernel
theorem dX5_wantsEvent_4 : decode cX5_wantsEvent 4 = .ok (.ifCond .ne 15, 3) := by decide +kernel
theorem dX5_wantsEvent_7 : decode cX5_wantsEvent 7 = .ok (.aload_n 0, 1) := by decide +kernel
theorem dX5_wantsEvent_8 : decode cX5_wantsEvent 8 = .ok (.getfield 82, 3) := by decide +kernel
theorem dX6_init_0 : decode cX6_init 0 = .ok (.aload_n 0, 1) := by decide +kernel
theorem dX6_init_1 : decode cX6_init 1 = .ok (.invokespecial 3, 3) := by decide +kernel
theorem dX6_init_12 : decode cX6_init 12 = .ok (.return_, 1) := by decide +kernel
theorem dX6_init_4 : decode cX6_init 4 = .ok (.aload_n 0, 1) := by decide +kernel
theorem dX6_init_5 : decode cX6_init 5 = .ok (.bipush 90, 2) := by decide +kernel
theorem dX6_init_7 : decode cX6_init 7 = .ok (.newarray .int, 2) := by decide +kernel
theorem dX6_init_9 : decode cX6_init 9 = .ok (.putfield 9, 3) := by decide +kernel
theorem dX8_aboutAnew_0 : decode cX8_aboutAnew 0 = .ok (.aload_n 0, 1) := by decide +kernel
theorem dX8_aboutAnew_1 : decode cX8_aboutAnew 1 = .ok (.iload_n 1, 1) := by decide +kernel
theorem dX8_aboutAnew_10 : decode cX8_aboutAnew 10 = .ok (.new 72, 3) := by decide +kernel
theorem dX8_aboutAnew_13 : decode cX8_aboutAnew 13 = .ok (.dup, 1) := by decide +kernel
theorem dX8_aboutAnew_14 : decode cX8_aboutAnew 14 = .ok (.ldc 153, 2) := by decide +kernel
theorem dX8_aboutAnew_16 : decode cX8_aboutAnew 16 = .ok (.invokespecial 76, 3) := by decide +kernel
theorem dX8_aboutAnew_19 : decode cX8_aboutAnew 19 = .ok (.athrow, 1) := by decide +kernel
theorem dX8_aboutAnew_2 : decode cX8_aboutAnew 2 = .ok (.invokevirtual 99, 3) := by decide +kernel
theorem dX8_aboutAnew_5 : decode cX8_aboutAnew 5 = .ok (.astore_n 3, 1) := by decide +kernel
theorem dX8_aboutAnew_6 : decode cX8_aboutAnew 6 = .ok (.aload_n 3, 1) := by decide +kernel
theorem dX8_aboutAnew_7 : decode cX8_aboutAnew 7 = .ok (.ifnonnull 13, 3) := by decide +kernel
theorem dX8_about_0 : decode cX8_about 0 = .ok (.aload_n 0, 1) := by decide +kernel
theorem dX8_about_1 : decode cX8_about 1 = .ok (.iload_n 1, 1) := by decide +kernel
theorem dX8_about_10 : decode cX8_about 10 = .ok (.new 72, 3) := by decide +kernel
theorem dX8_about_13 : decode cX8_about 13 = .ok (.dup, 1) := by decide +kernel
theorem dX8_about_14 : decode cX8_about 14 = .ok (.ldc 153, 2) := by decide +kernel
theorem dX8_about_16 : decode cX8_about 16 = .ok (.invokespecial 76, 3) := by decide +kernel
theorem dX8_about_19 : decode cX8_about 19 = .ok (.athrow, 1) := by decide +kernel
theorem dX8_about_2 : decode cX8_about 2 = .ok (.invokevirtual 99, 3) := by decide +kernel
theorem dX8_about_5 : decode cX8_about 5 = .ok (.astore_n 3, 1) := by decide +kernel
theorem dX8_about_6 : decode cX8_about 6 = .ok (.aload_n 3, 1) := by decide +kernel
theorem dX8_about_7 : decode cX8_about 7 = .ok (.ifnonnull 13, 3) := by decide +kernel
theorem dX8_beat_0 : decode cX8_beat 0 = .ok (.aload_n 0, 1) := by decide +kernel
theorem dX8_beat_1 : decode cX8_beat 1 = .ok (.iload_n 1, 1) := by decide +kernel
theorem dX8_beat_10 : decode cX8_beat 10 = .ok (.iconst 0, 1) := by decide +kernel
theorem dX8_beat_11 : decode cX8_beat 11 = .ok (.ireturn, 1) := by decide +kernel
theorem dX8_beat_2 : decode cX8_beat 2 = .ok (.invokevirtual 225, 3) := by decide +kernel
theorem dX8_beat_5 : decode cX8_beat 5 = .ok (.astore_n 2, 1) := by decide +kernel
theorem dX8_beat_6 : decode cX8_beat 6 = .ok (.aload_n 2, 1) := by decide +kernel
theorem dX8_beat_7 : decode cX8_beat 7 = .ok (.ifnonnull 5, 3) := by decide +kernel
theorem dX8_cancel_0 : decode cX8_cancel 0 = .ok (.aload_n 0, 1) := by decide +kernel
theorem dX8_cancel_1 : decode cX8_cancel 1 = .ok (.iload_n 1, 1) := by decide +kernel
theorem dX8_cancel_10 : decode cX8_cancel 10 = .ok (.new 72, 3) := by decide +kernel
theorem dX8_cancel_13 : decode cX8_cancel 13 = .ok (.dup, 1) := by decide +kernel
theorem dX8_cancel_14 : decode cX8_cancel 14 = .ok (.ldc 153, 2) := by decide +kernel
theorem dX8_cancel_16 : decode cX8_cancel 16 = .ok (.invokespecial 76, 3) := by decide +kernel
theorem dX8_cancel_19 : decode cX8_cancel 19 = .ok (.athrow, 1) := by decide +kernel
theorem dX8_cancel_2 : decode cX8_cancel 2 = .ok (.invokevirtual 99, 3) := by decide +kernel
theorem dX8_cancel_5 : decode cX8_cancel 5 = .ok (.astore_n 2, 1) := by decide +kernel
theorem dX8_cancel_6 : decode cX8_cancel 6 = .ok (.aload_n 2, 1) := by decide +kernel
theorem dX8_cancel_7 : decode cX8_cancel 7 = .ok (.ifnonnull 13, 3) := by decide +kernel
theorem dX8_check_0 : decode cX8_check 0 = .ok (.aload_n 0, 1) := by decide +kernel
theorem dX8_check_1 : decode cX8_check 1 = .ok (.iload_n 1, 1) := by decide +kernel
theorem dX8_check_12 : decode cX8_check 12 = .ok (.iload_n 2, 1) := by decide +kernel
theorem dX8_check_13 : decode cX8_check 13 = .ok (.bipush 20, 2) := by decide +kernel
theorem dX8_check_15 : decode cX8_check 15 = .ok (.invokestatic 68, 3) := by decide +kernel
theorem dX8_check_154 : decode cX8_check 154 = .ok (.aload 6, 2) := by decide +kernel
theorem dX8_check_156 : decode cX8_check 156 = .ok (.iload_n 2, 1) := by decide +kernel
theorem dX8_check_157 : decode cX8_check 157 = .ok (.iload 7, 2) := by decide +kernel
theorem dX8_check_159 : decode cX8_check 159 = .ok (.iload 8, 2) := by decide +kernel
theorem dX8_check_161 : decode cX8_check 161 = .ok (.iload 9, 2) := by decide +kernel
theorem dX8_check_163 : decode cX8_check 163 = .ok (.invokevirtual 88, 3) := by decide +kernel
theorem dX8_check_166 : decode cX8_check 166 = .ok (.iload 10, 2) := by decide +kernel
theorem dX8_check_168 : decode cX8_check 168 = .ok (.ireturn, 1) := by decide +kernel
theorem dX8_check_18 : decode cX8_check 18 = .ok (.ifCond .ne 13, 3) := by decide +kernel
theorem dX8_check_2 : decode cX8_check 2 = .ok (.invokevirtual 64, 3) := by decide +kernel
theorem dX8_check_21 : decode cX8_check 21 = .ok (.new 72, 3) := by decide +kernel
theorem dX8_check_24 : decode cX8_check 24 = .ok (.dup, 1) := by decide +kernel
theorem dX8_check_25 : decode cX8_check 25 = .ok (.ldc 74, 2) := by decide +kernel
theorem dX8_check_27 : decode cX8_check 27 = .ok (.invokespecial 76, 3) := by decide +kernel
theorem dX8_check_30 : decode cX8_check 30 = .ok (.athrow, 1) := by decide +kernel
theorem dX8_check_31 : decode cX8_check 31 = .ok (.iload_n 3, 1) := by decide +kernel
theorem dX8_check_32 : decode cX8_check 32 = .ok (.iload 4, 2) := by decide +kernel
theorem dX8_check_34 : decode cX8_check 34 = .ok (.iload 5, 2) := by decide +kernel
theorem dX8_check_36 : decode cX8_check 36 = .ok (.invokestatic 79, 3) := by decide +kernel
theorem dX8_check_39 : decode cX8_check 39 = .ok (.ifCond .ne 13, 3) := by decide +kernel
theorem dX8_check_42 : decode cX8_check 42 = .ok (.new 83, 3) := by decide +kernel
theorem dX8_check_45 : decode cX8_check 45 = .ok (.dup, 1) := by decide +kernel
theorem dX8_check_46 : decode cX8_check 46 = .ok (.ldc 85, 2) := by decide +kernel
theorem dX8_check_48 : decode cX8_check 48 = .ok (.invokespecial 87, 3) := by decide +kernel
theorem dX8_check_5 : decode cX8_check 5 = .ok (.astore 6, 2) := by decide +kernel
theorem dX8_check_51 : decode cX8_check 51 = .ok (.athrow, 1) := by decide +kernel
theorem dX8_check_52 : decode cX8_check 52 = .ok (.aload 6, 2) := by decide +kernel
theorem dX8_check_54 : decode cX8_check 54 = .ok (.iload_n 2, 1) := by decide +kernel
theorem dX8_check_55 : decode cX8_check 55 = .ok (.invokevirtual 119, 3) := by decide +kernel
theorem dX8_check_58 : decode cX8_check 58 = .ok (.istore 7, 2) := by decide +kernel
theorem dX8_check_60 : decode cX8_check 60 = .ok (.aload 6, 2) := by decide +kernel
theorem dX8_check_62 : decode cX8_check 62 = .ok (.iload_n 2, 1) := by decide +kernel
theorem dX8_check_63 : decode cX8_check 63 = .ok (.invokevirtual 123, 3) := by decide +kernel
theorem dX8_check_66 : decode cX8_check 66 = .ok (.istore 8, 2) := by decide +kernel
theorem dX8_check_68 : decode cX8_check 68 = .ok (.aload 6, 2) := by decide +kernel
theorem dX8_check_7 : decode cX8_check 7 = .ok (.aload 6, 2) := by decide +kernel
theorem dX8_check_70 : decode cX8_check 70 = .ok (.iload_n 2, 1) := by decide +kernel
theorem dX8_check_71 : decode cX8_check 71 = .ok (.invokevirtual 126, 3) := by decide +kernel
theorem dX8_check_74 : decode cX8_check 74 = .ok (.istore 9, 2) := by decide +kernel
theorem dX8_check_76 : decode cX8_check 76 = .ok (.aload 6, 2) := by decide +kernel
theorem dX8_check_78 : decode cX8_check 78 = .ok (.iload_n 2, 1) := by decide +kernel
theorem dX8_check_79 : decode cX8_check 79 = .ok (.iload_n 3, 1) := by decide +kernel
theorem dX8_check_80 : decode cX8_check 80 = .ok (.iload 4, 2) := by decide +kernel
theorem dX8_check_82 : decode cX8_check 82 = .ok (.iload 5, 2) := by decide +kernel
theorem dX8_check_84 : decode cX8_check 84 = .ok (.invokevirtual 88, 3) := by decide +kernel
theorem dX8_check_87 : decode cX8_check 87 = .ok (.iconst 0, 1) := by decide +kernel
theorem dX8_check_88 : decode cX8_check 88 = .ok (.istore 10, 2) := by decide +kernel
theorem dX8_check_9 : decode cX8_check 9 = .ok (.ifnull 12, 3) := by decide +kernel
theorem dX8_check_90 : decode cX8_check 90 = .ok (.iconst 0, 1) := by decide +kernel
theorem dX8_check_91 : decode cX8_check 91 = .ok (.istore 11, 2) := by decide +kernel
theorem dX8_check_93 : decode cX8_check 93 = .ok (.iload 11, 2) := by decide +kernel
theorem dX8_check_95 : decode cX8_check 95 = .ok (.aload_n 0, 1) := by decide +kernel
theorem dX8_check_96 : decode cX8_check 96 = .ok (.getfield 96, 3) := by decide +kernel
theorem dX8_check_99 : decode cX8_check 99 = .ok (.if_icmp .ge 55, 3) := by decide +kernel
theorem dX8_complete_0 : decode cX8_complete 0 = .ok (.iload_n 2, 1) := by decide +kernel
theorem dX8_complete_1 : decode cX8_complete 1 = .ok (.sipush (-999), 3) := by decide +kernel
theorem dX8_complete_11 : decode cX8_complete 11 = .ok (.if_icmp .le 13, 3) := by decide +kernel
theorem dX8_complete_14 : decode cX8_complete 14 = .ok (.new 83, 3) := by decide +kernel
theorem dX8_complete_17 : decode cX8_complete 17 = .ok (.dup, 1) := by decide +kernel
theorem dX8_complete_18 : decode cX8_complete 18 = .ok (.ldc 223, 2) := by decide +kernel
theorem dX8_complete_20 : decode cX8_complete 20 = .ok (.invokespecial 87, 3) := by decide +kernel
theorem dX8_complete_23 : decode cX8_complete 23 = .ok (.athrow, 1) := by decide +kernel
theorem dX8_complete_24 : decode cX8_complete 24 = .ok (.aload_n 0, 1) := by decide +kernel
theorem dX8_complete_25 : decode cX8_complete 25 = .ok (.iload_n 1, 1) := by decide +kernel
theorem dX8_complete_26 : decode cX8_complete 26 = .ok (.invokevirtual 225, 3) := by decide +kernel
theorem dX8_complete_29 : decode cX8_complete 29 = .ok (.astore_n 3, 1) := by decide +kernel
theorem dX8_complete_30 : decode cX8_complete 30 = .ok (.aload_n 3, 1) := by decide +kernel
theorem dX8_complete_31 : decode cX8_complete 31 = .ok (.ifnonnull 5, 3) := by decide +kernel
theorem dX8_complete_34 : decode cX8_complete 34 = .ok (.iconst 0, 1) := by decide +kernel
theorem dX8_complete_35 : decode cX8_complete 35 = .ok (.ireturn, 1) := by decide +kernel
theorem dX8_complete_4 : decode cX8_complete 4 = .ok (.if_icmp .lt 10, 3) := by decide +kernel
theorem dX8_complete_7 : decode cX8_complete 7 = .ok (.iload_n 2, 1) := by decide +kernel
theorem dX8_complete_8 : decode cX8_complete 8 = .ok (.sipush 999, 3) := by decide +kernel
theorem dX8_countAstray_0 : decode cX8_countAstray 0 = .ok (.iconst 0, 1) := by decide +kernel
theorem dX8_countAstray_1 : decode cX8_countAstray 1 = .ok (.istore_n 2, 1) := by decide +kernel
theorem dX8_countAstray_2 : decode cX8_countAstray 2 = .ok (.iconst 0, 1) := by decide +kernel
theorem dX8_countAstray_3 : decode cX8_countAstray 3 = .ok (.istore_n 3, 1) := by decide +kernel
theorem dX8_countAstray_4 : decode cX8_countAstray 4 = .ok (.iload_n 3, 1) := by decide +kernel
theorem dX8_countAstray_5 : decode cX8_countAstray 5 = .ok (.aload_n 0, 1) := by decide +kernel
theorem dX8_countAstray_6 : decode cX8_countAstray 6 = .ok (.getfield 96, 3) := by decide +kernel
theorem dX8_countAstray_61 : decode cX8_countAstray 61 = .ok (.iload_n 2, 1) := by decide +kernel
theorem dX8_countAstray_62 : decode cX8_countAstray 62 = .ok (.ireturn, 1) := by decide +kernel
theorem dX8_countAstray_9 : decode cX8_countAstray 9 = .ok (.if_icmp .ge 52, 3) := by decide +kernel
theorem dX8_crash_0 : decode cX8_crash 0 = .ok (.iconst 0, 1) := by decide +kernel
theorem dX8_crash_1 : decode cX8_crash 1 = .ok (.istore_n 1, 1) := by decide +kernel
theorem dX8_crash_2 : decode cX8_crash 2 = .ok (.iconst 0, 1) := by decide +kernel
theorem dX8_crash_3 : decode cX8_crash 3 = .ok (.istore_n 2, 1) := by decide +kernel
theorem dX8_crash_4 : decode cX8_crash 4 = .ok (.iload_n 2, 1) := by decide +kernel
theorem dX8_crash_42 : decode cX8_crash 42 = .ok (.iload_n 1, 1) := by decide +kernel
theorem dX8_crash_43 : decode cX8_crash 43 = .ok (.ireturn, 1) := by decide +kernel
theorem dX8_crash_5 : decode cX8_crash 5 = .ok (.aload_n 0, 1) := by decide +kernel
theorem dX8_crash_6 : decode cX8_crash 6 = .ok (.getfield 96, 3) := by decide +kernel
theorem dX8_crash_9 : decode cX8_crash 9 = .ok (.if_icmp .ge 33, 3) := by decide +kernel
theorem dX8_events_0 : decode cX8_events 0 = .ok (.aload_n 0, 1) := by decide +kernel
theorem dX8_events_1 : decode cX8_events 1 = .ok (.iload_n 1, 1) := by decide +kernel
theorem dX8_events_10 : decode cX8_events 10 = .ok (.new 72, 3) := by decide +kernel
theorem dX8_events_13 : decode cX8_events 13 = .ok (.dup, 1) := by decide +kernel
theorem dX8_events_14 : decode cX8_events 14 = .ok (.ldc 153, 2) := by decide +kernel
theorem dX8_events_16 : decode cX8_events 16 = .ok (.invokespecial 76, 3) := by decide +kernel
theorem dX8_events_19 : decode cX8_events 19 = .ok (.athrow, 1) := by decide +kernel
theorem dX8_events_2 : decode cX8_events 2 = .ok (.invokevirtual 99, 3) := by decide +kernel
theorem dX8_events_5 : decode cX8_events 5 = .ok (.astore_n 2, 1) := by decide +kernel
theorem dX8_events_6 : decode cX8_events 6 = .ok (.aload_n 2, 1) := by decide +kernel
theorem dX8_events_7 : decode cX8_events 7 = .ok (.ifnonnull 13, 3) := by decide +kernel
theorem dX8_fail_0 : decode cX8_fail 0 = .ok (.aload_n 0, 1) := by decide +kernel
theorem dX8_fail_1 : decode cX8_fail 1 = .ok (.iload_n 1, 1) := by decide +kernel
theorem dX8_fail_10 : decode cX8_fail 10 = .ok (.iconst 0, 1) := by decide +kernel
theorem dX8_fail_11 : decode cX8_fail 11 = .ok (.ireturn, 1) := by decide +kernel
theorem dX8_fail_2 : decode cX8_fail 2 = .ok (.invokevirtual 225, 3) := by decide +kernel
theorem dX8_fail_5 : decode cX8_fail 5 = .ok (.astore_n 2, 1) := by decide +kernel
theorem dX8_fail_6 : decode cX8_fail 6 = .ok (.aload_n 2, 1) := by decide +kernel
theorem dX8_fail_7 : decode cX8_fail 7 = .ok (.ifnonnull 5, 3) := by decide +kernel
theorem dX8_findAgain_0 : decode cX8_findAgain 0 = .ok (.iconst 0, 1) := by decide +kernel
theorem dX8_findAgain_1 : decode cX8_findAgain 1 = .ok (.istore_n 2, 1) := by decide +kernel
theorem dX8_findAgain_2 : decode cX8_findAgain 2 = .ok (.iload_n 2, 1) := by decide +kernel
theorem dX8_findAgain_3 : decode cX8_findAgain 3 = .ok (.aload_n 0, 1) := by decide +kernel
theorem dX8_findAgain_4 : decode cX8_findAgain 4 = .ok (.getfield 96, 3) := by decide +kernel
theorem dX8_findAgain_45 : decode cX8_findAgain 45 = .ok (.return_, 1) := by decide +kernel
theorem dX8_findAgain_7 : decode cX8_findAgain 7 = .ok (.if_icmp .ge 38, 3) := by decide +kernel
theorem dX8_flowAt_0 : decode cX8_flowAt 0 = .ok (.iload_n 1, 1) := by decide +kernel
theorem dX8_flowAt_1 : decode cX8_flowAt 1 = .ok (.ifCond .lt 24, 3) := by decide +kernel
theorem dX8_flowAt_25 : decode cX8_flowAt 25 = .ok (.iconst 0, 1) := by decide +kernel
theorem dX8_flowAt_26 : decode cX8_flowAt 26 = .ok (.istore_n 2, 1) := by decide +kernel
theorem dX8_flowAt_27 : decode cX8_flowAt 27 = .ok (.iload_n 2, 1) := by decide +kernel
theorem dX8_flowAt_28 : decode cX8_flowAt 28 = .ok (.ifCond .eq 12, 3) := by decide +kernel
theorem dX8_flowAt_4 : decode cX8_flowAt 4 = .ok (.iload_n 1, 1) := by decide +kernel
theorem dX8_flowAt_40 : decode cX8_flowAt 40 = .ok (.aconst_null, 1) := by decide +kernel
theorem dX8_flowAt_41 : decode cX8_flowAt 41 = .ok (.areturn, 1) := by decide +kernel
theorem dX8_flowAt_5 : decode cX8_flowAt 5 = .ok (.aload_n 0, 1) := by decide +kernel
theorem dX8_flowAt_6 : decode cX8_flowAt 6 = .ok (.getfield 96, 3) := by decide +kernel
theorem dX8_flowAt_9 : decode cX8_flowAt 9 = .ok (.if_icmp .ge 16, 3) := by decide +kernel
theorem dX8_goOn_0 : decode cX8_goOn 0 = .ok (.aload_n 0, 1) := by decide +kernel
theorem dX8_goOn_1 : decode cX8_goOn 1 = .ok (.getfield 35, 3) := by decide +kernel
theorem dX8_goOn_10 : decode cX8_goOn 10 = .ok (.iload_n 2, 1) := by decide +kernel
theorem dX8_goOn_100 : decode cX8_goOn 100 = .ok (.invokevirtual 289, 3) := by decide +kernel
theorem dX8_goOn_103 : decode cX8_goOn 103 = .ok (.aload_n 0, 1) := by decide +kernel
theorem dX8_goOn_104 : decode cX8_goOn 104 = .ok (.getfield 35, 3) := by decide +kernel
theorem dX8_goOn_107 : decode cX8_goOn 107 = .ok (.aload 4, 2) := by decide +kernel
theorem dX8_goOn_109 : decode cX8_goOn 109 = .ok (.invokevirtual 337, 3) := by decide +kernel
theorem dX8_goOn_11 : decode cX8_goOn 11 = .ok (.ldc_w 340, 3) := by decide +kernel
theorem dX8_goOn_112 : decode cX8_goOn 112 = .ok (.goto 8, 3) := by decide +kernel
theorem dX8_goOn_115 : decode cX8_goOn 115 = .ok (.aload_n 0, 1) := by decide +kernel
theorem dX8_goOn_116 : decode cX8_goOn 116 = .ok (.aload_n 3, 1) := by decide +kernel
theorem dX8_goOn_117 : decode cX8_goOn 117 = .ok (.invokevirtual 361, 3) := by decide +kernel
theorem dX8_goOn_120 : decode cX8_goOn 120 = .ok (.iinc 2 1, 3) := by decide +kernel
theorem dX8_goOn_123 : decode cX8_goOn 123 = .ok (.goto (-113), 3) := by decide +kernel
theorem dX8_goOn_14 : decode cX8_goOn 14 = .ok (.if_icmp .ge 112, 3) := by decide +kernel
theorem dX8_goOn_17 : decode cX8_goOn 17 = .ok (.aload_n 0, 1) := by decide +kernel
theorem dX8_goOn_18 : decode cX8_goOn 18 = .ok (.getfield 35, 3) := by decide +kernel
theorem dX8_goOn_21 : decode cX8_goOn 21 = .ok (.invokevirtual 341, 3) := by decide +kernel
theorem dX8_goOn_24 : decode cX8_goOn 24 = .ok (.ifCond .eq 17, 3) := by decide +kernel
theorem dX8_goOn_27 : decode cX8_goOn 27 = .ok (.aload_n 0, 1) := by decide +kernel
theorem dX8_goOn_28 : decode cX8_goOn 28 = .ok (.getfield 35, 3) := by decide +kernel
theorem dX8_goOn_31 : decode cX8_goOn 31 = .ok (.aload_n 0, 1) := by decide +kernel
theorem dX8_goOn_32 : decode cX8_goOn 32 = .ok (.getfield 39, 3) := by decide +kernel
theorem dX8_goOn_35 : decode cX8_goOn 35 = .ok (.invokevirtual 344, 3) := by decide +kernel
theorem dX8_goOn_38 : decode cX8_goOn 38 = .ok (.invokevirtual 337, 3) := by decide +kernel
theorem dX8_goOn_4 : decode cX8_goOn 4 = .ok (.aload_n 1, 1) := by decide +kernel
theorem dX8_goOn_41 : decode cX8_goOn 41 = .ok (.aload_n 0, 1) := by decide +kernel
theorem dX8_goOn_42 : decode cX8_goOn 42 = .ok (.getfield 35, 3) := by decide +kernel
theorem dX8_goOn_45 : decode cX8_goOn 45 = .ok (.invokevirtual 348, 3) := by decide +kernel
theorem dX8_goOn_48 : decode cX8_goOn 48 = .ok (.astore_n 3, 1) := by decide +kernel
theorem dX8_goOn_49 : decode cX8_goOn 49 = .ok (.aload_n 3, 1) := by decide +kernel
theorem dX8_goOn_5 : decode cX8_goOn 5 = .ok (.invokevirtual 337, 3) := by decide +kernel
theorem dX8_goOn_50 : decode cX8_goOn 50 = .ok (.ifnonnull 4, 3) := by decide +kernel
theorem dX8_goOn_53 : decode cX8_goOn 53 = .ok (.return_, 1) := by decide +kernel
theorem dX8_goOn_54 : decode cX8_goOn 54 = .ok (.aload_n 3, 1) := by decide +kernel
theorem dX8_goOn_55 : decode cX8_goOn 55 = .ok (.getfield 249, 3) := by decide +kernel
theorem dX8_goOn_58 : decode cX8_goOn 58 = .ok (.aload_n 3, 1) := by decide +kernel
theorem dX8_goOn_59 : decode cX8_goOn 59 = .ok (.getfield 179, 3) := by decide +kernel
theorem dX8_goOn_62 : decode cX8_goOn 62 = .ok (.invokevirtual 183, 3) := by decide +kernel
theorem dX8_goOn_65 : decode cX8_goOn 65 = .ok (.invokevirtual 289, 3) := by decide +kernel
theorem dX8_goOn_68 : decode cX8_goOn 68 = .ok (.aload_n 3, 1) := by decide +kernel
theorem dX8_goOn_69 : decode cX8_goOn 69 = .ok (.invokevirtual 351, 3) := by decide +kernel
theorem dX8_goOn_72 : decode cX8_goOn 72 = .ok (.aload_n 3, 1) := by decide +kernel
theorem dX8_goOn_73 : decode cX8_goOn 73 = .ok (.getfield 249, 3) := by decide +kernel
theorem dX8_goOn_76 : decode cX8_goOn 76 = .ok (.invokevirtual 354, 3) := by decide +kernel
theorem dX8_goOn_79 : decode cX8_goOn 79 = .ok (.ifCond .eq 36, 3) := by decide +kernel
theorem dX8_goOn_8 : decode cX8_goOn 8 = .ok (.iconst 0, 1) := by decide +kernel
theorem dX8_goOn_82 : decode cX8_goOn 82 = .ok (.aload_n 0, 1) := by decide +kernel
theorem dX8_goOn_83 : decode cX8_goOn 83 = .ok (.aload_n 3, 1) := by decide +kernel
theorem dX8_goOn_84 : decode cX8_goOn 84 = .ok (.invokevirtual 357, 3) := by decide +kernel
theorem dX8_goOn_87 : decode cX8_goOn 87 = .ok (.astore 4, 2) := by decide +kernel
theorem dX8_goOn_89 : decode cX8_goOn 89 = .ok (.aload_n 3, 1) := by decide +kernel
theorem dX8_goOn_9 : decode cX8_goOn 9 = .ok (.istore_n 2, 1) := by decide +kernel
theorem dX8_goOn_90 : decode cX8_goOn 90 = .ok (.getfield 249, 3) := by decide +kernel
theorem dX8_goOn_93 : decode cX8_goOn 93 = .ok (.aload_n 3, 1) := by decide +kernel
theorem dX8_goOn_94 : decode cX8_goOn 94 = .ok (.getfield 179, 3) := by decide +kernel
theorem dX8_goOn_97 : decode cX8_goOn 97 = .ok (.invokevirtual 183, 3) := by decide +kernel
theorem dX8_init_0 : decode cX8_init 0 = .ok (.aload_n 0, 1) := by decide +kernel
theorem dX8_init_1 : decode cX8_init 1 = .ok (.invokespecial 1, 3) := by decide +kernel
theorem dX8_init_10 : decode cX8_init 10 = .ok (.putfield 11, 3) := by decide +kernel
theorem dX8_init_102 : decode cX8_init 102 = .ok (.dup, 1) := by decide +kernel
theorem dX8_init_103 : decode cX8_init 103 = .ok (.iconst 0, 1) := by decide +kernel
theorem dX8_init_104 : decode cX8_init 104 = .ok (.invokespecial 46, 3) := by decide +kernel
theorem dX8_init_107 : decode cX8_init 107 = .ok (.astore_n 1, 1) := by decide +kernel
theorem dX8_init_108 : decode cX8_init 108 = .ok (.iconst 0, 1) := by decide +kernel
theorem dX8_init_109 : decode cX8_init 109 = .ok (.istore_n 2, 1) := by decide +kernel
theorem dX8_init_110 : decode cX8_init 110 = .ok (.iload_n 2, 1) := by decide +kernel
theorem dX8_init_111 : decode cX8_init 111 = .ok (.aload_n 0, 1) := by decide +kernel
theorem dX8_init_112 : decode cX8_init 112 = .ok (.getfield 21, 3) := by decide +kernel
theorem dX8_init_115 : decode cX8_init 115 = .ok (.arraylength, 1) := by decide +kernel
theorem dX8_init_116 : decode cX8_init 116 = .ok (.if_icmp .ge 42, 3) := by decide +kernel
theorem dX8_init_119 : decode cX8_init 119 = .ok (.new 49, 3) := by decide +kernel
theorem dX8_init_122 : decode cX8_init 122 = .ok (.dup, 1) := by decide +kernel
theorem dX8_init_123 : decode cX8_init 123 = .ok (.invokespecial 51, 3) := by decide +kernel
theorem dX8_init_126 : decode cX8_init 126 = .ok (.astore_n 3, 1) := by decide +kernel
theorem dX8_init_127 : decode cX8_init 127 = .ok (.aload_n 0, 1) := by decide +kernel
theorem dX8_init_128 : decode cX8_init 128 = .ok (.getfield 21, 3) := by decide +kernel
theorem dX8_init_13 : decode cX8_init 13 = .ok (.aload_n 0, 1) := by decide +kernel
theorem dX8_init_131 : decode cX8_init 131 = .ok (.iload_n 2, 1) := by decide +kernel
theorem dX8_init_132 : decode cX8_init 132 = .ok (.new 19, 3) := by decide +kernel
theorem dX8_init_135 : decode cX8_init 135 = .ok (.dup, 1) := by decide +kernel
theorem dX8_init_136 : decode cX8_init 136 = .ok (.iload_n 2, 1) := by decide +kernel
theorem dX8_init_137 : decode cX8_init 137 = .ok (.aload_n 1, 1) := by decide +kernel
theorem dX8_init_138 : decode cX8_init 138 = .ok (.aload_n 3, 1) := by decide +kernel
theorem dX8_init_139 : decode cX8_init 139 = .ok (.new 52, 3) := by decide +kernel
theorem dX8_init_14 : decode cX8_init 14 = .ok (.bipush 6, 2) := by decide +kernel
theorem dX8_init_142 : decode cX8_init 142 = .ok (.dup, 1) := by decide +kernel
theorem dX8_init_143 : decode cX8_init 143 = .ok (.aload_n 1, 1) := by decide +kernel
theorem dX8_init_144 : decode cX8_init 144 = .ok (.aload_n 3, 1) := by decide +kernel
theorem dX8_init_145 : decode cX8_init 145 = .ok (.invokespecial 54, 3) := by decide +kernel
theorem dX8_init_148 : decode cX8_init 148 = .ok (.invokespecial 57, 3) := by decide +kernel
theorem dX8_init_151 : decode cX8_init 151 = .ok (.aastore, 1) := by decide +kernel
theorem dX8_init_152 : decode cX8_init 152 = .ok (.iinc 2 1, 3) := by decide +kernel
theorem dX8_init_155 : decode cX8_init 155 = .ok (.goto (-45), 3) := by decide +kernel
theorem dX8_init_158 : decode cX8_init 158 = .ok (.aload_n 0, 1) := by decide +kernel
theorem dX8_init_159 : decode cX8_init 159 = .ok (.new 52, 3) := by decide +kernel
theorem dX8_init_16 : decode cX8_init 16 = .ok (.newarray .int, 2) := by decide +kernel
theorem dX8_init_162 : decode cX8_init 162 = .ok (.dup, 1) := by decide +kernel
theorem dX8_init_163 : decode cX8_init 163 = .ok (.aload_n 1, 1) := by decide +kernel
theorem dX8_init_164 : decode cX8_init 164 = .ok (.new 49, 3) := by decide +kernel
theorem dX8_init_167 : decode cX8_init 167 = .ok (.dup, 1) := by decide +kernel
theorem dX8_init_168 : decode cX8_init 168 = .ok (.invokespecial 51, 3) := by decide +kernel
theorem dX8_init_171 : decode cX8_init 171 = .ok (.invokespecial 54, 3) := by decide +kernel
theorem dX8_init_174 : decode cX8_init 174 = .ok (.putfield 60, 3) := by decide +kernel
theorem dX8_init_177 : decode cX8_init 177 = .ok (.return_, 1) := by decide +kernel
theorem dX8_init_18 : decode cX8_init 18 = .ok (.putfield 15, 3) := by decide +kernel
theorem dX8_init_21 : decode cX8_init 21 = .ok (.aload_n 0, 1) := by decide +kernel
theorem dX8_init_22 : decode cX8_init 22 = .ok (.bipush 40, 2) := by decide +kernel
theorem dX8_init_24 : decode cX8_init 24 = .ok (.anewarray 19, 3) := by decide +kernel
theorem dX8_init_27 : decode cX8_init 27 = .ok (.putfield 21, 3) := by decide +kernel
theorem dX8_init_30 : decode cX8_init 30 = .ok (.aload_n 0, 1) := by decide +kernel
theorem dX8_init_31 : decode cX8_init 31 = .ok (.new 25, 3) := by decide +kernel
theorem dX8_init_34 : decode cX8_init 34 = .ok (.dup, 1) := by decide +kernel
theorem dX8_init_35 : decode cX8_init 35 = .ok (.invokespecial 27, 3) := by decide +kernel
theorem dX8_init_38 : decode cX8_init 38 = .ok (.putfield 28, 3) := by decide +kernel
theorem dX8_init_4 : decode cX8_init 4 = .ok (.aload_n 0, 1) := by decide +kernel
theorem dX8_init_41 : decode cX8_init 41 = .ok (.aload_n 0, 1) := by decide +kernel
theorem dX8_init_42 : decode cX8_init 42 = .ok (.new 32, 3) := by decide +kernel
theorem dX8_init_45 : decode cX8_init 45 = .ok (.dup, 1) := by decide +kernel
theorem dX8_init_46 : decode cX8_init 46 = .ok (.invokespecial 34, 3) := by decide +kernel
theorem dX8_init_49 : decode cX8_init 49 = .ok (.putfield 35, 3) := by decide +kernel
theorem dX8_init_5 : decode cX8_init 5 = .ok (.bipush 6, 2) := by decide +kernel
theorem dX8_init_52 : decode cX8_init 52 = .ok (.aload_n 0, 1) := by decide +kernel
theorem dX8_init_53 : decode cX8_init 53 = .ok (.new 32, 3) := by decide +kernel
theorem dX8_init_56 : decode cX8_init 56 = .ok (.dup, 1) := by decide +kernel
theorem dX8_init_57 : decode cX8_init 57 = .ok (.invokespecial 34, 3) := by decide +kernel
theorem dX8_init_60 : decode cX8_init 60 = .ok (.putfield 39, 3) := by decide +kernel
theorem dX8_init_63 : decode cX8_init 63 = .ok (.aload_n 0, 1) := by decide +kernel
theorem dX8_init_64 : decode cX8_init 64 = .ok (.iconst 1, 1) := by decide +kernel
theorem dX8_init_65 : decode cX8_init 65 = .ok (.putfield 42, 3) := by decide +kernel
theorem dX8_init_68 : decode cX8_init 68 = .ok (.iconst 0, 1) := by decide +kernel
theorem dX8_init_69 : decode cX8_init 69 = .ok (.istore_n 1, 1) := by decide +kernel
theorem dX8_init_7 : decode cX8_init 7 = .ok (.anewarray 9, 3) := by decide +kernel
theorem dX8_init_70 : decode cX8_init 70 = .ok (.iload_n 1, 1) := by decide +kernel
theorem dX8_init_71 : decode cX8_init 71 = .ok (.aload_n 0, 1) := by decide +kernel
theorem dX8_init_72 : decode cX8_init 72 = .ok (.getfield 11, 3) := by decide +kernel
theorem dX8_init_75 : decode cX8_init 75 = .ok (.arraylength, 1) := by decide +kernel
theorem dX8_init_76 : decode cX8_init 76 = .ok (.if_icmp .ge 23, 3) := by decide +kernel
theorem dX8_init_79 : decode cX8_init 79 = .ok (.aload_n 0, 1) := by decide +kernel
theorem dX8_init_80 : decode cX8_init 80 = .ok (.getfield 11, 3) := by decide +kernel
theorem dX8_init_83 : decode cX8_init 83 = .ok (.iload_n 1, 1) := by decide +kernel
theorem dX8_init_84 : decode cX8_init 84 = .ok (.new 9, 3) := by decide +kernel
theorem dX8_init_87 : decode cX8_init 87 = .ok (.dup, 1) := by decide +kernel
theorem dX8_init_88 : decode cX8_init 88 = .ok (.iload_n 1, 1) := by decide +kernel
theorem dX8_init_89 : decode cX8_init 89 = .ok (.invokespecial 46, 3) := by decide +kernel
theorem dX8_init_92 : decode cX8_init 92 = .ok (.aastore, 1) := by decide +kernel
theorem dX8_init_93 : decode cX8_init 93 = .ok (.iinc 1 1, 3) := by decide +kernel
theorem dX8_init_96 : decode cX8_init 96 = .ok (.goto (-26), 3) := by decide +kernel
theorem dX8_init_99 : decode cX8_init 99 = .ok (.new 9, 3) := by decide +kernel
theorem dX8_isBelow_0 : decode cX8_isBelow 0 = .ok (.iload_n 0, 1) := by decide +kernel
theorem dX8_isBelow_1 : decode cX8_isBelow 1 = .ok (.ifCond .lt 12, 3) := by decide +kernel
theorem dX8_isBelow_10 : decode cX8_isBelow 10 = .ok (.goto 4, 3) := by decide +kernel
theorem dX8_isBelow_13 : decode cX8_isBelow 13 = .ok (.iconst 0, 1) := by decide +kernel
theorem dX8_isBelow_14 : decode cX8_isBelow 14 = .ok (.ireturn, 1) := by decide +kernel
theorem dX8_isBelow_4 : decode cX8_isBelow 4 = .ok (.iload_n 0, 1) := by decide +kernel
theorem dX8_isBelow_5 : decode cX8_isBelow 5 = .ok (.iload_n 1, 1) := by decide +kernel
theorem dX8_isBelow_6 : decode cX8_isBelow 6 = .ok (.if_icmp .ge 7, 3) := by decide +kernel
theorem dX8_isBelow_9 : decode cX8_isBelow 9 = .ok (.iconst 1, 1) := by decide +kernel
theorem dX8_isStep_0 : decode cX8_isStep 0 = .ok (.iload_n 0, 1) := by decide +kernel
theorem dX8_isStep_1 : decode cX8_isStep 1 = .ok (.bipush 18, 2) := by decide +kernel
theorem dX8_isStep_10 : decode cX8_isStep 10 = .ok (.bipush 100, 2) := by decide +kernel
theorem dX8_isStep_12 : decode cX8_isStep 12 = .ok (.invokestatic 68, 3) := by decide +kernel
theorem dX8_isStep_15 : decode cX8_isStep 15 = .ok (.ifCond .eq 16, 3) := by decide +kernel
theorem dX8_isStep_18 : decode cX8_isStep 18 = .ok (.iload_n 2, 1) := by decide +kernel
theorem dX8_isStep_19 : decode cX8_isStep 19 = .ok (.bipush 100, 2) := by decide +kernel
theorem dX8_isStep_21 : decode cX8_isStep 21 = .ok (.invokestatic 68, 3) := by decide +kernel
theorem dX8_isStep_24 : decode cX8_isStep 24 = .ok (.ifCond .eq 7, 3) := by decide +kernel
theorem dX8_isStep_27 : decode cX8_isStep 27 = .ok (.iconst 1, 1) := by decide +kernel
theorem dX8_isStep_28 : decode cX8_isStep 28 = .ok (.goto 4, 3) := by decide +kernel
theorem dX8_isStep_3 : decode cX8_isStep 3 = .ok (.invokestatic 68, 3) := by decide +kernel
theorem dX8_isStep_31 : decode cX8_isStep 31 = .ok (.iconst 0, 1) := by decide +kernel
theorem dX8_isStep_32 : decode cX8_isStep 32 = .ok (.ireturn, 1) := by decide +kernel
theorem dX8_isStep_6 : decode cX8_isStep 6 = .ok (.ifCond .eq 25, 3) := by decide +kernel
theorem dX8_isStep_9 : decode cX8_isStep 9 = .ok (.iload_n 1, 1) := by decide +kernel
theorem dX8_kind_0 : decode cX8_kind 0 = .ok (.aload_n 0, 1) := by decide +kernel
theorem dX8_kind_1 : decode cX8_kind 1 = .ok (.iload_n 1, 1) := by decide +kernel
theorem dX8_kind_2 : decode cX8_kind 2 = .ok (.invokevirtual 99, 3) := by decide +kernel
theorem dX8_kind_24 : decode cX8_kind 24 = .ok (.new 72, 3) := by decide +kernel
theorem dX8_kind_27 : decode cX8_kind 27 = .ok (.dup, 1) := by decide +kernel
theorem dX8_kind_28 : decode cX8_kind 28 = .ok (.ldc_w 262, 3) := by decide +kernel
theorem dX8_kind_31 : decode cX8_kind 31 = .ok (.invokespecial 76, 3) := by decide +kernel
theorem dX8_kind_34 : decode cX8_kind 34 = .ok (.athrow, 1) := by decide +kernel
theorem dX8_kind_5 : decode cX8_kind 5 = .ok (.astore_n 3, 1) := by decide +kernel
theorem dX8_kind_6 : decode cX8_kind 6 = .ok (.aload_n 3, 1) := by decide +kernel
theorem dX8_kind_7 : decode cX8_kind 7 = .ok (.ifnull 17, 3) := by decide +kernel
theorem dX8_leave_0 : decode cX8_leave 0 = .ok (.aload_n 0, 1) := by decide +kernel
theorem dX8_leave_1 : decode cX8_leave 1 = .ok (.getfield 35, 3) := by decide +kernel
theorem dX8_leave_11 : decode cX8_leave 11 = .ok (.getfield 133, 3) := by decide +kernel
theorem dX8_leave_14 : decode cX8_leave 14 = .ok (.ifCond .eq 4, 3) := by decide +kernel
theorem dX8_leave_18 : decode cX8_leave 18 = .ok (.aload_n 1, 1) := by decide +kernel
theorem dX8_leave_19 : decode cX8_leave 19 = .ok (.getfield 249, 3) := by decide +kernel
theorem dX8_leave_22 : decode cX8_leave 22 = .ok (.getfield 391, 3) := by decide +kernel
theorem dX8_leave_25 : decode cX8_leave 25 = .ok (.aload_n 1, 1) := by decide +kernel
theorem dX8_leave_26 : decode cX8_leave 26 = .ok (.getfield 394, 3) := by decide +kernel
theorem dX8_leave_29 : decode cX8_leave 29 = .ok (.if_icmp .lt 7, 3) := by decide +kernel
theorem dX8_leave_36 : decode cX8_leave 36 = .ok (.iconst 0, 1) := by decide +kernel
theorem dX8_leave_37 : decode cX8_leave 37 = .ok (.istore_n 2, 1) := by decide +kernel
theorem dX8_leave_38 : decode cX8_leave 38 = .ok (.aload_n 1, 1) := by decide +kernel
theorem dX8_leave_39 : decode cX8_leave 39 = .ok (.aload_n 1, 1) := by decide +kernel
theorem dX8_leave_4 : decode cX8_leave 4 = .ok (.invokevirtual 388, 3) := by decide +kernel
theorem dX8_leave_40 : decode cX8_leave 40 = .ok (.getfield 179, 3) := by decide +kernel
theorem dX8_leave_43 : decode cX8_leave 43 = .ok (.invokevirtual 183, 3) := by decide +kernel
theorem dX8_leave_46 : decode cX8_leave 46 = .ok (.putfield 394, 3) := by decide +kernel
theorem dX8_leave_49 : decode cX8_leave 49 = .ok (.iload_n 2, 1) := by decide +kernel
theorem dX8_leave_50 : decode cX8_leave 50 = .ok (.ifCond .eq 17, 3) := by decide +kernel
theorem dX8_leave_67 : decode cX8_leave 67 = .ok (.aconst_null, 1) := by decide +kernel
theorem dX8_leave_68 : decode cX8_leave 68 = .ok (.astore_n 3, 1) := by decide +kernel
theorem dX8_leave_69 : decode cX8_leave 69 = .ok (.aload_n 3, 1) := by decide +kernel
theorem dX8_leave_7 : decode cX8_leave 7 = .ok (.aload_n 1, 1) := by decide +kernel
theorem dX8_leave_70 : decode cX8_leave 70 = .ok (.ifnull 28, 3) := by decide +kernel
theorem dX8_leave_8 : decode cX8_leave 8 = .ok (.getfield 249, 3) := by decide +kernel
theorem dX8_leave_98 : decode cX8_leave 98 = .ok (.return_, 1) := by decide +kernel
theorem dX8_make_0 : decode cX8_make 0 = .ok (.aload_n 1, 1) := by decide +kernel
theorem dX8_make_1 : decode cX8_make 1 = .ok (.getfield 249, 3) := by decide +kernel
theorem dX8_make_100 : decode cX8_make 100 = .ok (.bipush 9, 2) := by decide +kernel
theorem dX8_make_102 : decode cX8_make 102 = .ok (.if_icmp .ne 11, 3) := by decide +kernel
theorem dX8_make_113 : decode cX8_make 113 = .ok (.aload_n 1, 1) := by decide +kernel
theorem dX8_make_114 : decode cX8_make 114 = .ok (.getfield 179, 3) := by decide +kernel
theorem dX8_make_117 : decode cX8_make 117 = .ok (.iload_n 2, 1) := by decide +kernel
theorem dX8_make_118 : decode cX8_make 118 = .ok (.lload_n 3, 1) := by decide +kernel
theorem dX8_make_119 : decode cX8_make 119 = .ok (.invokevirtual 333, 3) := by decide +kernel
theorem dX8_make_12 : decode cX8_make 12 = .ok (.getfield 367, 3) := by decide +kernel
theorem dX8_make_122 : decode cX8_make 122 = .ok (.iload_n 2, 1) := by decide +kernel
theorem dX8_make_123 : decode cX8_make 123 = .ok (.bipush 13, 2) := by decide +kernel
theorem dX8_make_125 : decode cX8_make 125 = .ok (.if_icmp .ne 9, 3) := by decide +kernel
theorem dX8_make_128 : decode cX8_make 128 = .ok (.aload_n 0, 1) := by decide +kernel
theorem dX8_make_129 : decode cX8_make 129 = .ok (.aload_n 1, 1) := by decide +kernel
theorem dX8_make_130 : decode cX8_make 130 = .ok (.lload_n 3, 1) := by decide +kernel
theorem dX8_make_131 : decode cX8_make 131 = .ok (.invokevirtual 384, 3) := by decide +kernel
theorem dX8_make_134 : decode cX8_make 134 = .ok (.aload 5, 2) := by decide +kernel
theorem dX8_make_136 : decode cX8_make 136 = .ok (.areturn, 1) := by decide +kernel
theorem dX8_make_15 : decode cX8_make 15 = .ok (.lstore_n 3, 1) := by decide +kernel
theorem dX8_make_16 : decode cX8_make 16 = .ok (.aconst_null, 1) := by decide +kernel
theorem dX8_make_17 : decode cX8_make 17 = .ok (.astore 5, 2) := by decide +kernel
theorem dX8_make_19 : decode cX8_make 19 = .ok (.iload_n 2, 1) := by decide +kernel
theorem dX8_make_20 : decode cX8_make 20 = .ok (.bipush 7, 2) := by decide +kernel
theorem dX8_make_22 : decode cX8_make 22 = .ok (.if_icmp .eq 9, 3) := by decide +kernel
theorem dX8_make_25 : decode cX8_make 25 = .ok (.iload_n 2, 1) := by decide +kernel
theorem dX8_make_26 : decode cX8_make 26 = .ok (.bipush 14, 2) := by decide +kernel
theorem dX8_make_28 : decode cX8_make 28 = .ok (.if_icmp .ne 34, 3) := by decide +kernel
theorem dX8_make_4 : decode cX8_make 4 = .ok (.getfield 364, 3) := by decide +kernel
theorem dX8_make_62 : decode cX8_make 62 = .ok (.iload_n 2, 1) := by decide +kernel
theorem dX8_make_63 : decode cX8_make 63 = .ok (.iconst 1, 1) := by decide +kernel
theorem dX8_make_64 : decode cX8_make 64 = .ok (.if_icmp .eq 9, 3) := by decide +kernel
theorem dX8_make_67 : decode cX8_make 67 = .ok (.iload_n 2, 1) := by decide +kernel
theorem dX8_make_68 : decode cX8_make 68 = .ok (.bipush 11, 2) := by decide +kernel
theorem dX8_make_7 : decode cX8_make 7 = .ok (.istore_n 2, 1) := by decide +kernel
theorem dX8_make_70 : decode cX8_make 70 = .ok (.if_icmp .ne 13, 3) := by decide +kernel
theorem dX8_make_8 : decode cX8_make 8 = .ok (.aload_n 1, 1) := by decide +kernel
theorem dX8_make_83 : decode cX8_make 83 = .ok (.iload_n 2, 1) := by decide +kernel
theorem dX8_make_84 : decode cX8_make 84 = .ok (.iconst 4, 1) := by decide +kernel
theorem dX8_make_85 : decode cX8_make 85 = .ok (.if_icmp .ne 14, 3) := by decide +kernel
theorem dX8_make_9 : decode cX8_make 9 = .ok (.getfield 249, 3) := by decide +kernel
theorem dX8_make_99 : decode cX8_make 99 = .ok (.iload_n 2, 1) := by decide +kernel
theorem dX8_now_0 : decode cX8_now 0 = .ok (.aload_n 0, 1) := by decide +kernel
theorem dX8_now_1 : decode cX8_now 1 = .ok (.getfield 206, 3) := by decide +kernel
theorem dX8_now_4 : decode cX8_now 4 = .ok (.ireturn, 1) := by decide +kernel
theorem dX8_number_0 : decode cX8_number 0 = .ok (.aload_n 0, 1) := by decide +kernel
theorem dX8_number_1 : decode cX8_number 1 = .ok (.iload_n 1, 1) := by decide +kernel
theorem dX8_number_2 : decode cX8_number 2 = .ok (.invokevirtual 99, 3) := by decide +kernel
theorem dX8_number_24 : decode cX8_number 24 = .ok (.new 72, 3) := by decide +kernel
theorem dX8_number_27 : decode cX8_number 27 = .ok (.dup, 1) := by decide +kernel
theorem dX8_number_28 : decode cX8_number 28 = .ok (.ldc_w 262, 3) := by decide +kernel
theorem dX8_number_31 : decode cX8_number 31 = .ok (.invokespecial 76, 3) := by decide +kernel
theorem dX8_number_34 : decode cX8_number 34 = .ok (.athrow, 1) := by decide +kernel
theorem dX8_number_5 : decode cX8_number 5 = .ok (.astore_n 3, 1) := by decide +kernel
theorem dX8_number_6 : decode cX8_number 6 = .ok (.aload_n 3, 1) := by decide +kernel
theorem dX8_number_7 : decode cX8_number 7 = .ok (.ifnull 17, 3) := by decide +kernel
theorem dX8_open_0 : decode cX8_open 0 = .ok (.aload_n 1, 1) := by decide +kernel
theorem dX8_open_1 : decode cX8_open 1 = .ok (.ifnull 22, 3) := by decide +kernel
theorem dX8_open_102 : decode cX8_open 102 = .ok (.aload_n 1, 1) := by decide +kernel
theorem dX8_open_103 : decode cX8_open 103 = .ok (.aload 5, 2) := by decide +kernel
theorem dX8_open_105 : decode cX8_open 105 = .ok (.getfield 179, 3) := by decide +kernel
theorem dX8_open_108 : decode cX8_open 108 = .ok (.invokevirtual 286, 3) := by decide +kernel
theorem dX8_open_11 : decode cX8_open 11 = .ok (.aload_n 0, 1) := by decide +kernel
theorem dX8_open_111 : decode cX8_open 111 = .ok (.aload 5, 2) := by decide +kernel
theorem dX8_open_113 : decode cX8_open 113 = .ok (.areturn, 1) := by decide +kernel
theorem dX8_open_12 : decode cX8_open 12 = .ok (.getfield 96, 3) := by decide +kernel
theorem dX8_open_15 : decode cX8_open 15 = .ok (.aload_n 0, 1) := by decide +kernel
theorem dX8_open_16 : decode cX8_open 16 = .ok (.getfield 21, 3) := by decide +kernel
theorem dX8_open_19 : decode cX8_open 19 = .ok (.arraylength, 1) := by decide +kernel
theorem dX8_open_20 : decode cX8_open 20 = .ok (.if_icmp .lt 5, 3) := by decide +kernel
theorem dX8_open_25 : decode cX8_open 25 = .ok (.aload_n 0, 1) := by decide +kernel
theorem dX8_open_26 : decode cX8_open 26 = .ok (.getfield 21, 3) := by decide +kernel
theorem dX8_open_29 : decode cX8_open 29 = .ok (.aload_n 0, 1) := by decide +kernel
theorem dX8_open_30 : decode cX8_open 30 = .ok (.getfield 96, 3) := by decide +kernel
theorem dX8_open_33 : decode cX8_open 33 = .ok (.aaload, 1) := by decide +kernel
theorem dX8_open_34 : decode cX8_open 34 = .ok (.astore 5, 2) := by decide +kernel
theorem dX8_open_36 : decode cX8_open 36 = .ok (.aload 5, 2) := by decide +kernel
theorem dX8_open_38 : decode cX8_open 38 = .ok (.ifnonnull 5, 3) := by decide +kernel
theorem dX8_open_4 : decode cX8_open 4 = .ok (.aload_n 0, 1) := by decide +kernel
theorem dX8_open_43 : decode cX8_open 43 = .ok (.aload_n 0, 1) := by decide +kernel
theorem dX8_open_44 : decode cX8_open 44 = .ok (.dup, 1) := by decide +kernel
theorem dX8_open_45 : decode cX8_open 45 = .ok (.getfield 96, 3) := by decide +kernel
theorem dX8_open_48 : decode cX8_open 48 = .ok (.iconst 1, 1) := by decide +kernel
theorem dX8_open_49 : decode cX8_open 49 = .ok (.iadd, 1) := by decide +kernel
theorem dX8_open_5 : decode cX8_open 5 = .ok (.getfield 96, 3) := by decide +kernel
theorem dX8_open_50 : decode cX8_open 50 = .ok (.putfield 96, 3) := by decide +kernel
theorem dX8_open_53 : decode cX8_open 53 = .ok (.aload 5, 2) := by decide +kernel
theorem dX8_open_55 : decode cX8_open 55 = .ok (.aload_n 1, 1) := by decide +kernel
theorem dX8_open_56 : decode cX8_open 56 = .ok (.putfield 103, 3) := by decide +kernel
theorem dX8_open_59 : decode cX8_open 59 = .ok (.aload 5, 2) := by decide +kernel
theorem dX8_open_61 : decode cX8_open 61 = .ok (.iload_n 3, 1) := by decide +kernel
theorem dX8_open_62 : decode cX8_open 62 = .ok (.putfield 259, 3) := by decide +kernel
theorem dX8_open_65 : decode cX8_open 65 = .ok (.aload 5, 2) := by decide +kernel
theorem dX8_open_67 : decode cX8_open 67 = .ok (.iload 4, 2) := by decide +kernel
theorem dX8_open_69 : decode cX8_open 69 = .ok (.iconst (-1), 1) := by decide +kernel
theorem dX8_open_70 : decode cX8_open 70 = .ok (.if_icmp .ne 11, 3) := by decide +kernel
theorem dX8_open_73 : decode cX8_open 73 = .ok (.aload 5, 2) := by decide +kernel
theorem dX8_open_75 : decode cX8_open 75 = .ok (.getfield 150, 3) := by decide +kernel
theorem dX8_open_78 : decode cX8_open 78 = .ok (.goto 5, 3) := by decide +kernel
theorem dX8_open_8 : decode cX8_open 8 = .ok (.ifCond .lt 15, 3) := by decide +kernel
theorem dX8_open_83 : decode cX8_open 83 = .ok (.putfield 406, 3) := by decide +kernel
theorem dX8_open_86 : decode cX8_open 86 = .ok (.aload 5, 2) := by decide +kernel
theorem dX8_open_88 : decode cX8_open 88 = .ok (.getfield 179, 3) := by decide +kernel
theorem dX8_open_91 : decode cX8_open 91 = .ok (.iconst 0, 1) := by decide +kernel
theorem dX8_open_92 : decode cX8_open 92 = .ok (.iload_n 2, 1) := by decide +kernel
theorem dX8_open_93 : decode cX8_open 93 = .ok (.i2l, 1) := by decide +kernel
theorem dX8_open_94 : decode cX8_open 94 = .ok (.invokevirtual 333, 3) := by decide +kernel
theorem dX8_open_97 : decode cX8_open 97 = .ok (.aload 5, 2) := by decide +kernel
theorem dX8_open_99 : decode cX8_open 99 = .ok (.getfield 249, 3) := by decide +kernel
theorem dX8_parent_0 : decode cX8_parent 0 = .ok (.aload_n 0, 1) := by decide +kernel
theorem dX8_parent_1 : decode cX8_parent 1 = .ok (.iload_n 1, 1) := by decide +kernel
theorem dX8_parent_10 : decode cX8_parent 10 = .ok (.new 72, 3) := by decide +kernel
theorem dX8_parent_13 : decode cX8_parent 13 = .ok (.dup, 1) := by decide +kernel
theorem dX8_parent_14 : decode cX8_parent 14 = .ok (.ldc 153, 2) := by decide +kernel
theorem dX8_parent_16 : decode cX8_parent 16 = .ok (.invokespecial 76, 3) := by decide +kernel
theorem dX8_parent_19 : decode cX8_parent 19 = .ok (.athrow, 1) := by decide +kernel
theorem dX8_parent_2 : decode cX8_parent 2 = .ok (.invokevirtual 99, 3) := by decide +kernel
theorem dX8_parent_5 : decode cX8_parent 5 = .ok (.astore_n 2, 1) := by decide +kernel
theorem dX8_parent_6 : decode cX8_parent 6 = .ok (.aload_n 2, 1) := by decide +kernel
theorem dX8_parent_7 : decode cX8_parent 7 = .ok (.ifnonnull 13, 3) := by decide +kernel
theorem dX8_passTasks_0 : decode cX8_passTasks 0 = .ok (.iconst 0, 1) := by decide +kernel
theorem dX8_passTasks_1 : decode cX8_passTasks 1 = .ok (.istore_n 1, 1) := by decide +kernel
theorem dX8_passTasks_10 : decode cX8_passTasks 10 = .ok (.if_icmp .ge 46, 3) := by decide +kernel
theorem dX8_passTasks_2 : decode cX8_passTasks 2 = .ok (.iload_n 1, 1) := by decide +kernel
theorem dX8_passTasks_3 : decode cX8_passTasks 3 = .ok (.aload_n 0, 1) := by decide +kernel
theorem dX8_passTasks_4 : decode cX8_passTasks 4 = .ok (.getfield 28, 3) := by decide +kernel
theorem dX8_passTasks_56 : decode cX8_passTasks 56 = .ok (.return_, 1) := by decide +kernel
theorem dX8_passTasks_7 : decode cX8_passTasks 7 = .ok (.invokevirtual 264, 3) := by decide +kernel
theorem dX8_passTimers_0 : decode cX8_passTimers 0 = .ok (.iconst 0, 1) := by decide +kernel
theorem dX8_passTimers_1 : decode cX8_passTimers 1 = .ok (.istore_n 1, 1) := by decide +kernel
theorem dX8_passTimers_2 : decode cX8_passTimers 2 = .ok (.iload_n 1, 1) := by decide +kernel
theorem dX8_passTimers_3 : decode cX8_passTimers 3 = .ok (.aload_n 0, 1) := by decide +kernel
theorem dX8_passTimers_4 : decode cX8_passTimers 4 = .ok (.getfield 96, 3) := by decide +kernel
theorem dX8_passTimers_54 : decode cX8_passTimers 54 = .ok (.return_, 1) := by decide +kernel
theorem dX8_passTimers_7 : decode cX8_passTimers 7 = .ok (.if_icmp .ge 47, 3) := by decide +kernel
theorem dX8_poll_0 : decode cX8_poll 0 = .ok (.aconst_null, 1) := by decide +kernel
theorem dX8_poll_1 : decode cX8_poll 1 = .ok (.astore_n 1, 1) := by decide +kernel
theorem dX8_poll_2 : decode cX8_poll 2 = .ok (.iconst 0, 1) := by decide +kernel
theorem dX8_poll_3 : decode cX8_poll 3 = .ok (.istore_n 2, 1) := by decide +kernel
theorem dX8_poll_4 : decode cX8_poll 4 = .ok (.iload_n 2, 1) := by decide +kernel
theorem dX8_poll_44 : decode cX8_poll 44 = .ok (.aload_n 1, 1) := by decide +kernel
theorem dX8_poll_45 : decode cX8_poll 45 = .ok (.ifnonnull 5, 3) := by decide +kernel
theorem dX8_poll_48 : decode cX8_poll 48 = .ok (.iconst (-1), 1) := by decide +kernel
theorem dX8_poll_49 : decode cX8_poll 49 = .ok (.ireturn, 1) := by decide +kernel
theorem dX8_poll_5 : decode cX8_poll 5 = .ok (.aload_n 0, 1) := by decide +kernel
theorem dX8_poll_6 : decode cX8_poll 6 = .ok (.getfield 96, 3) := by decide +kernel
theorem dX8_poll_9 : decode cX8_poll 9 = .ok (.if_icmp .ge 35, 3) := by decide +kernel
theorem dX8_programAt_0 : decode cX8_programAt 0 = .ok (.iload_n 1, 1) := by decide +kernel
theorem dX8_programAt_1 : decode cX8_programAt 1 = .ok (.ifCond .lt 21, 3) := by decide +kernel
theorem dX8_programAt_10 : decode cX8_programAt 10 = .ok (.if_icmp .ge 12, 3) := by decide +kernel
theorem dX8_programAt_13 : decode cX8_programAt 13 = .ok (.aload_n 0, 1) := by decide +kernel
theorem dX8_programAt_14 : decode cX8_programAt 14 = .ok (.getfield 11, 3) := by decide +kernel
theorem dX8_programAt_17 : decode cX8_programAt 17 = .ok (.iload_n 1, 1) := by decide +kernel
theorem dX8_programAt_18 : decode cX8_programAt 18 = .ok (.aaload, 1) := by decide +kernel
theorem dX8_programAt_19 : decode cX8_programAt 19 = .ok (.goto 4, 3) := by decide +kernel
theorem dX8_programAt_22 : decode cX8_programAt 22 = .ok (.aconst_null, 1) := by decide +kernel
theorem dX8_programAt_23 : decode cX8_programAt 23 = .ok (.areturn, 1) := by decide +kernel
theorem dX8_programAt_4 : decode cX8_programAt 4 = .ok (.iload_n 1, 1) := by decide +kernel
theorem dX8_programAt_5 : decode cX8_programAt 5 = .ok (.aload_n 0, 1) := by decide +kernel
theorem dX8_programAt_6 : decode cX8_programAt 6 = .ok (.getfield 11, 3) := by decide +kernel
theorem dX8_programAt_9 : decode cX8_programAt 9 = .ok (.arraylength, 1) := by decide +kernel
theorem dX8_reset_0 : decode cX8_reset 0 = .ok (.aload_n 0, 1) := by decide +kernel
theorem dX8_reset_1 : decode cX8_reset 1 = .ok (.iload_n 1, 1) := by decide +kernel
theorem dX8_reset_10 : decode cX8_reset 10 = .ok (.new 72, 3) := by decide +kernel
theorem dX8_reset_13 : decode cX8_reset 13 = .ok (.dup, 1) := by decide +kernel
theorem dX8_reset_14 : decode cX8_reset 14 = .ok (.ldc 153, 2) := by decide +kernel
theorem dX8_reset_16 : decode cX8_reset 16 = .ok (.invokespecial 76, 3) := by decide +kernel
theorem dX8_reset_19 : decode cX8_reset 19 = .ok (.athrow, 1) := by decide +kernel
theorem dX8_reset_2 : decode cX8_reset 2 = .ok (.invokevirtual 99, 3) := by decide +kernel
theorem dX8_reset_5 : decode cX8_reset 5 = .ok (.astore_n 3, 1) := by decide +kernel
theorem dX8_reset_6 : decode cX8_reset 6 = .ok (.aload_n 3, 1) := by decide +kernel
theorem dX8_reset_7 : decode cX8_reset 7 = .ok (.ifnonnull 13, 3) := by decide +kernel
theorem dX8_runningTask_0 : decode cX8_runningTask 0 = .ok (.iconst 0, 1) := by decide +kernel
theorem dX8_runningTask_1 : decode cX8_runningTask 1 = .ok (.istore_n 2, 1) := by decide +kernel
theorem dX8_runningTask_2 : decode cX8_runningTask 2 = .ok (.iload_n 2, 1) := by decide +kernel
theorem dX8_runningTask_3 : decode cX8_runningTask 3 = .ok (.aload_n 0, 1) := by decide +kernel
theorem dX8_runningTask_37 : decode cX8_runningTask 37 = .ok (.aconst_null, 1) := by decide +kernel
theorem dX8_runningTask_38 : decode cX8_runningTask 38 = .ok (.areturn, 1) := by decide +kernel
theorem dX8_runningTask_4 : decode cX8_runningTask 4 = .ok (.getfield 96, 3) := by decide +kernel
theorem dX8_runningTask_7 : decode cX8_runningTask 7 = .ok (.if_icmp .ge 30, 3) := by decide +kernel
theorem dX8_set_0 : decode cX8_set 0 = .ok (.aload_n 0, 1) := by decide +kernel
theorem dX8_set_1 : decode cX8_set 1 = .ok (.iload_n 1, 1) := by decide +kernel
theorem dX8_set_12 : decode cX8_set 12 = .ok (.iload_n 2, 1) := by decide +kernel
theorem dX8_set_124 : decode cX8_set 124 = .ok (.aload_n 0, 1) := by decide +kernel
theorem dX8_set_125 : decode cX8_set 125 = .ok (.aload 6, 2) := by decide +kernel
theorem dX8_set_127 : decode cX8_set 127 = .ok (.invokevirtual 115, 3) := by decide +kernel
theorem dX8_set_13 : decode cX8_set 13 = .ok (.bipush 20, 2) := by decide +kernel
theorem dX8_set_130 : decode cX8_set 130 = .ok (.ireturn, 1) := by decide +kernel
theorem dX8_set_15 : decode cX8_set 15 = .ok (.invokestatic 68, 3) := by decide +kernel
theorem dX8_set_18 : decode cX8_set 18 = .ok (.ifCond .ne 13, 3) := by decide +kernel
theorem dX8_set_2 : decode cX8_set 2 = .ok (.invokevirtual 64, 3) := by decide +kernel
theorem dX8_set_21 : decode cX8_set 21 = .ok (.new 72, 3) := by decide +kernel
theorem dX8_set_24 : decode cX8_set 24 = .ok (.dup, 1) := by decide +kernel
theorem dX8_set_25 : decode cX8_set 25 = .ok (.ldc 74, 2) := by decide +kernel
theorem dX8_set_27 : decode cX8_set 27 = .ok (.invokespecial 76, 3) := by decide +kernel
theorem dX8_set_30 : decode cX8_set 30 = .ok (.athrow, 1) := by decide +kernel
theorem dX8_set_31 : decode cX8_set 31 = .ok (.iload_n 3, 1) := by decide +kernel
theorem dX8_set_32 : decode cX8_set 32 = .ok (.iload 4, 2) := by decide +kernel
theorem dX8_set_34 : decode cX8_set 34 = .ok (.iload 5, 2) := by decide +kernel
theorem dX8_set_36 : decode cX8_set 36 = .ok (.invokestatic 79, 3) := by decide +kernel
theorem dX8_set_39 : decode cX8_set 39 = .ok (.ifCond .ne 13, 3) := by decide +kernel
theorem dX8_set_42 : decode cX8_set 42 = .ok (.new 83, 3) := by decide +kernel
theorem dX8_set_45 : decode cX8_set 45 = .ok (.dup, 1) := by decide +kernel
theorem dX8_set_46 : decode cX8_set 46 = .ok (.ldc 85, 2) := by decide +kernel
theorem dX8_set_48 : decode cX8_set 48 = .ok (.invokespecial 87, 3) := by decide +kernel
theorem dX8_set_5 : decode cX8_set 5 = .ok (.astore 6, 2) := by decide +kernel
theorem dX8_set_51 : decode cX8_set 51 = .ok (.athrow, 1) := by decide +kernel
theorem dX8_set_52 : decode cX8_set 52 = .ok (.aload 6, 2) := by decide +kernel
theorem dX8_set_54 : decode cX8_set 54 = .ok (.iload_n 2, 1) := by decide +kernel
theorem dX8_set_55 : decode cX8_set 55 = .ok (.iload_n 3, 1) := by decide +kernel
theorem dX8_set_56 : decode cX8_set 56 = .ok (.iload 4, 2) := by decide +kernel
theorem dX8_set_58 : decode cX8_set 58 = .ok (.iload 5, 2) := by decide +kernel
theorem dX8_set_60 : decode cX8_set 60 = .ok (.invokevirtual 88, 3) := by decide +kernel
theorem dX8_set_63 : decode cX8_set 63 = .ok (.aload_n 0, 1) := by decide +kernel
theorem dX8_set_64 : decode cX8_set 64 = .ok (.aload 6, 2) := by decide +kernel
theorem dX8_set_66 : decode cX8_set 66 = .ok (.invokevirtual 92, 3) := by decide +kernel
theorem dX8_set_69 : decode cX8_set 69 = .ok (.iconst 0, 1) := by decide +kernel
theorem dX8_set_7 : decode cX8_set 7 = .ok (.aload 6, 2) := by decide +kernel
theorem dX8_set_70 : decode cX8_set 70 = .ok (.istore 7, 2) := by decide +kernel
theorem dX8_set_72 : decode cX8_set 72 = .ok (.iload 7, 2) := by decide +kernel
theorem dX8_set_74 : decode cX8_set 74 = .ok (.aload_n 0, 1) := by decide +kernel
theorem dX8_set_75 : decode cX8_set 75 = .ok (.getfield 96, 3) := by decide +kernel
theorem dX8_set_78 : decode cX8_set 78 = .ok (.if_icmp .ge 46, 3) := by decide +kernel
theorem dX8_set_9 : decode cX8_set 9 = .ok (.ifnull 12, 3) := by decide +kernel
theorem dX8_signal_0 : decode cX8_signal 0 = .ok (.aload_n 0, 1) := by decide +kernel
theorem dX8_signal_1 : decode cX8_signal 1 = .ok (.iload_n 1, 1) := by decide +kernel
theorem dX8_signal_12 : decode cX8_signal 12 = .ok (.new 72, 3) := by decide +kernel
theorem dX8_signal_15 : decode cX8_signal 15 = .ok (.dup, 1) := by decide +kernel
theorem dX8_signal_16 : decode cX8_signal 16 = .ok (.ldc 153, 2) := by decide +kernel
theorem dX8_signal_18 : decode cX8_signal 18 = .ok (.invokespecial 76, 3) := by decide +kernel
theorem dX8_signal_2 : decode cX8_signal 2 = .ok (.invokevirtual 99, 3) := by decide +kernel
theorem dX8_signal_21 : decode cX8_signal 21 = .ok (.athrow, 1) := by decide +kernel
theorem dX8_signal_5 : decode cX8_signal 5 = .ok (.astore 4, 2) := by decide +kernel
theorem dX8_signal_7 : decode cX8_signal 7 = .ok (.aload 4, 2) := by decide +kernel
theorem dX8_signal_9 : decode cX8_signal 9 = .ok (.ifnonnull 13, 3) := by decide +kernel
theorem dX8_start_0 : decode cX8_start 0 = .ok (.aload_n 0, 1) := by decide +kernel
theorem dX8_start_1 : decode cX8_start 1 = .ok (.iload_n 1, 1) := by decide +kernel
theorem dX8_start_10 : decode cX8_start 10 = .ok (.new 72, 3) := by decide +kernel
theorem dX8_start_13 : decode cX8_start 13 = .ok (.dup, 1) := by decide +kernel
theorem dX8_start_14 : decode cX8_start 14 = .ok (.ldc 137, 2) := by decide +kernel
theorem dX8_start_16 : decode cX8_start 16 = .ok (.invokespecial 76, 3) := by decide +kernel
theorem dX8_start_19 : decode cX8_start 19 = .ok (.athrow, 1) := by decide +kernel
theorem dX8_start_2 : decode cX8_start 2 = .ok (.invokevirtual 64, 3) := by decide +kernel
theorem dX8_start_20 : decode cX8_start 20 = .ok (.iload_n 2, 1) := by decide +kernel
theorem dX8_start_21 : decode cX8_start 21 = .ok (.sipush (-999), 3) := by decide +kernel
theorem dX8_start_24 : decode cX8_start 24 = .ok (.if_icmp .lt 10, 3) := by decide +kernel
theorem dX8_start_27 : decode cX8_start 27 = .ok (.iload_n 2, 1) := by decide +kernel
theorem dX8_start_28 : decode cX8_start 28 = .ok (.sipush 999, 3) := by decide +kernel
theorem dX8_start_31 : decode cX8_start 31 = .ok (.if_icmp .le 13, 3) := by decide +kernel
theorem dX8_start_34 : decode cX8_start 34 = .ok (.new 83, 3) := by decide +kernel
theorem dX8_start_37 : decode cX8_start 37 = .ok (.dup, 1) := by decide +kernel
theorem dX8_start_38 : decode cX8_start 38 = .ok (.ldc 139, 2) := by decide +kernel
theorem dX8_start_40 : decode cX8_start 40 = .ok (.invokespecial 87, 3) := by decide +kernel
theorem dX8_start_43 : decode cX8_start 43 = .ok (.athrow, 1) := by decide +kernel
theorem dX8_start_44 : decode cX8_start 44 = .ok (.aload_n 0, 1) := by decide +kernel
theorem dX8_start_45 : decode cX8_start 45 = .ok (.aload_n 3, 1) := by decide +kernel
theorem dX8_start_46 : decode cX8_start 46 = .ok (.iload_n 2, 1) := by decide +kernel
theorem dX8_start_47 : decode cX8_start 47 = .ok (.iconst (-1), 1) := by decide +kernel
theorem dX8_start_48 : decode cX8_start 48 = .ok (.iconst (-1), 1) := by decide +kernel
theorem dX8_start_49 : decode cX8_start 49 = .ok (.invokevirtual 141, 3) := by decide +kernel
theorem dX8_start_5 : decode cX8_start 5 = .ok (.astore_n 3, 1) := by decide +kernel
theorem dX8_start_52 : decode cX8_start 52 = .ok (.astore 4, 2) := by decide +kernel
theorem dX8_start_54 : decode cX8_start 54 = .ok (.aload 4, 2) := by decide +kernel
theorem dX8_start_56 : decode cX8_start 56 = .ok (.ifnonnull 13, 3) := by decide +kernel
theorem dX8_start_6 : decode cX8_start 6 = .ok (.aload_n 3, 1) := by decide +kernel
theorem dX8_start_69 : decode cX8_start 69 = .ok (.aload_n 0, 1) := by decide +kernel
theorem dX8_start_7 : decode cX8_start 7 = .ok (.ifnonnull 13, 3) := by decide +kernel
theorem dX8_start_70 : decode cX8_start 70 = .ok (.aload 4, 2) := by decide +kernel
theorem dX8_start_72 : decode cX8_start 72 = .ok (.invokevirtual 111, 3) := by decide +kernel
theorem dX8_start_75 : decode cX8_start 75 = .ok (.aload 4, 2) := by decide +kernel
theorem dX8_start_77 : decode cX8_start 77 = .ok (.getfield 150, 3) := by decide +kernel
theorem dX8_start_80 : decode cX8_start 80 = .ok (.ireturn, 1) := by decide +kernel
theorem dX8_state_0 : decode cX8_state 0 = .ok (.aload_n 0, 1) := by decide +kernel
theorem dX8_state_1 : decode cX8_state 1 = .ok (.iload_n 1, 1) := by decide +kernel
theorem dX8_state_10 : decode cX8_state 10 = .ok (.new 72, 3) := by decide +kernel
theorem dX8_state_13 : decode cX8_state 13 = .ok (.dup, 1) := by decide +kernel
theorem dX8_state_14 : decode cX8_state 14 = .ok (.ldc 153, 2) := by decide +kernel
theorem dX8_state_16 : decode cX8_state 16 = .ok (.invokespecial 76, 3) := by decide +kernel
theorem dX8_state_19 : decode cX8_state 19 = .ok (.athrow, 1) := by decide +kernel
theorem dX8_state_2 : decode cX8_state 2 = .ok (.invokevirtual 99, 3) := by decide +kernel
theorem dX8_state_5 : decode cX8_state 5 = .ok (.astore_n 2, 1) := by decide +kernel
theorem dX8_state_6 : decode cX8_state 6 = .ok (.aload_n 2, 1) := by decide +kernel
theorem dX8_state_7 : decode cX8_state 7 = .ok (.ifnonnull 13, 3) := by decide +kernel
theorem dX8_taskAt_0 : decode cX8_taskAt 0 = .ok (.iload_n 1, 1) := by decide +kernel
theorem dX8_taskAt_1 : decode cX8_taskAt 1 = .ok (.ifCond .lt 28, 3) := by decide +kernel
theorem dX8_taskAt_12 : decode cX8_taskAt 12 = .ok (.if_icmp .ge 17, 3) := by decide +kernel
theorem dX8_taskAt_29 : decode cX8_taskAt 29 = .ok (.aconst_null, 1) := by decide +kernel
theorem dX8_taskAt_30 : decode cX8_taskAt 30 = .ok (.areturn, 1) := by decide +kernel
theorem dX8_taskAt_4 : decode cX8_taskAt 4 = .ok (.iload_n 1, 1) := by decide +kernel
theorem dX8_taskAt_5 : decode cX8_taskAt 5 = .ok (.aload_n 0, 1) := by decide +kernel
theorem dX8_taskAt_6 : decode cX8_taskAt 6 = .ok (.getfield 28, 3) := by decide +kernel
theorem dX8_taskAt_9 : decode cX8_taskAt 9 = .ok (.invokevirtual 264, 3) := by decide +kernel
theorem dX8_task_0 : decode cX8_task 0 = .ok (.aload_n 0, 1) := by decide +kernel
theorem dX8_task_1 : decode cX8_task 1 = .ok (.iload_n 1, 1) := by decide +kernel
theorem dX8_task_10 : decode cX8_task 10 = .ok (.new 72, 3) := by decide +kernel
theorem dX8_task_13 : decode cX8_task 13 = .ok (.dup, 1) := by decide +kernel
theorem dX8_task_14 : decode cX8_task 14 = .ok (.ldc_w 268, 3) := by decide +kernel
theorem dX8_task_17 : decode cX8_task 17 = .ok (.invokespecial 76, 3) := by decide +kernel
theorem dX8_task_2 : decode cX8_task 2 = .ok (.invokevirtual 265, 3) := by decide +kernel
theorem dX8_task_20 : decode cX8_task 20 = .ok (.athrow, 1) := by decide +kernel
theorem dX8_task_5 : decode cX8_task 5 = .ok (.astore_n 3, 1) := by decide +kernel
theorem dX8_task_6 : decode cX8_task 6 = .ok (.aload_n 3, 1) := by decide +kernel
theorem dX8_task_7 : decode cX8_task 7 = .ok (.ifnonnull 14, 3) := by decide +kernel
theorem dX8_tasks_0 : decode cX8_tasks 0 = .ok (.aload_n 0, 1) := by decide +kernel
theorem dX8_tasks_1 : decode cX8_tasks 1 = .ok (.getfield 28, 3) := by decide +kernel
theorem dX8_tasks_4 : decode cX8_tasks 4 = .ok (.invokevirtual 264, 3) := by decide +kernel
theorem dX8_tasks_7 : decode cX8_tasks 7 = .ok (.ireturn, 1) := by decide +kernel
theorem dX8_tellParent_0 : decode cX8_tellParent 0 = .ok (.aload_n 0, 1) := by decide +kernel
theorem dX8_tellParent_1 : decode cX8_tellParent 1 = .ok (.aload_n 1, 1) := by decide +kernel
theorem dX8_tellParent_10 : decode cX8_tellParent 10 = .ok (.aload 4, 2) := by decide +kernel
theorem dX8_tellParent_12 : decode cX8_tellParent 12 = .ok (.ifnull 46, 3) := by decide +kernel
theorem dX8_tellParent_2 : decode cX8_tellParent 2 = .ok (.getfield 259, 3) := by decide +kernel
theorem dX8_tellParent_5 : decode cX8_tellParent 5 = .ok (.invokevirtual 99, 3) := by decide +kernel
theorem dX8_tellParent_58 : decode cX8_tellParent 58 = .ok (.return_, 1) := by decide +kernel
theorem dX8_tellParent_8 : decode cX8_tellParent 8 = .ok (.astore 4, 2) := by decide +kernel
theorem dX8_tick_0 : decode cX8_tick 0 = .ok (.iload_n 1, 1) := by decide +kernel
theorem dX8_tick_1 : decode cX8_tick 1 = .ok (.iconst 1, 1) := by decide +kernel
theorem dX8_tick_11 : decode cX8_tick 11 = .ok (.new 83, 3) := by decide +kernel
theorem dX8_tick_14 : decode cX8_tick 14 = .ok (.dup, 1) := by decide +kernel
theorem dX8_tick_15 : decode cX8_tick 15 = .ok (.ldc 238, 2) := by decide +kernel
theorem dX8_tick_17 : decode cX8_tick 17 = .ok (.invokespecial 87, 3) := by decide +kernel
theorem dX8_tick_2 : decode cX8_tick 2 = .ok (.if_icmp .lt 9, 3) := by decide +kernel
theorem dX8_tick_20 : decode cX8_tick 20 = .ok (.athrow, 1) := by decide +kernel
theorem dX8_tick_21 : decode cX8_tick 21 = .ok (.iconst 0, 1) := by decide +kernel
theorem dX8_tick_22 : decode cX8_tick 22 = .ok (.istore_n 2, 1) := by decide +kernel
theorem dX8_tick_23 : decode cX8_tick 23 = .ok (.iload_n 2, 1) := by decide +kernel
theorem dX8_tick_24 : decode cX8_tick 24 = .ok (.iload_n 1, 1) := by decide +kernel
theorem dX8_tick_25 : decode cX8_tick 25 = .ok (.if_icmp .ge 27, 3) := by decide +kernel
theorem dX8_tick_28 : decode cX8_tick 28 = .ok (.aload_n 0, 1) := by decide +kernel
theorem dX8_tick_29 : decode cX8_tick 29 = .ok (.dup, 1) := by decide +kernel
theorem dX8_tick_30 : decode cX8_tick 30 = .ok (.getfield 206, 3) := by decide +kernel
theorem dX8_tick_33 : decode cX8_tick 33 = .ok (.iconst 1, 1) := by decide +kernel
theorem dX8_tick_34 : decode cX8_tick 34 = .ok (.iadd, 1) := by decide +kernel
theorem dX8_tick_35 : decode cX8_tick 35 = .ok (.putfield 206, 3) := by decide +kernel
theorem dX8_tick_38 : decode cX8_tick 38 = .ok (.aload_n 0, 1) := by decide +kernel
theorem dX8_tick_39 : decode cX8_tick 39 = .ok (.invokevirtual 240, 3) := by decide +kernel
theorem dX8_tick_42 : decode cX8_tick 42 = .ok (.aload_n 0, 1) := by decide +kernel
theorem dX8_tick_43 : decode cX8_tick 43 = .ok (.invokevirtual 243, 3) := by decide +kernel
theorem dX8_tick_46 : decode cX8_tick 46 = .ok (.iinc 2 1, 3) := by decide +kernel
theorem dX8_tick_49 : decode cX8_tick 49 = .ok (.goto (-26), 3) := by decide +kernel
theorem dX8_tick_5 : decode cX8_tick 5 = .ok (.iload_n 1, 1) := by decide +kernel
theorem dX8_tick_52 : decode cX8_tick 52 = .ok (.aload_n 0, 1) := by decide +kernel
theorem dX8_tick_53 : decode cX8_tick 53 = .ok (.getfield 206, 3) := by decide +kernel
theorem dX8_tick_56 : decode cX8_tick 56 = .ok (.ireturn, 1) := by decide +kernel
theorem dX8_tick_6 : decode cX8_tick 6 = .ok (.bipush 50, 2) := by decide +kernel
theorem dX8_tick_8 : decode cX8_tick 8 = .ok (.if_icmp .le 13, 3) := by decide +kernel
theorem dX8_workflows_0 : decode cX8_workflows 0 = .ok (.aload_n 0, 1) := by decide +kernel
theorem dX8_workflows_1 : decode cX8_workflows 1 = .ok (.getfield 96, 3) := by decide +kernel
theorem dX8_workflows_4 : decode cX8_workflows 4 = .ok (.ireturn, 1) := by decide +kernel
theorem dX9_aboutAnew_0 : decode cX9_aboutAnew 0 = .ok (.aload_n 0, 1) := by decide +kernel
theorem dX9_aboutAnew_1 : decode cX9_aboutAnew 1 = .ok (.iload_n 1, 1) := by decide +kernel
theorem dX9_aboutAnew_2 : decode cX9_aboutAnew 2 = .ok (.iload_n 2, 1) := by decide +kernel
theorem dX9_aboutAnew_3 : decode cX9_aboutAnew 3 = .ok (.invokevirtual 297, 3) := by decide +kernel
theorem dX9_aboutAnew_6 : decode cX9_aboutAnew 6 = .ok (.ireturn, 1) := by decide +kernel
theorem dX9_about_0 : decode cX9_about 0 = .ok (.aload_n 0, 1) := by decide +kernel
theorem dX9_about_1 : decode cX9_about 1 = .ok (.iload_n 1, 1) := by decide +kernel
theorem dX9_about_2 : decode cX9_about 2 = .ok (.iload_n 2, 1) := by decide +kernel
theorem dX9_about_3 : decode cX9_about 3 = .ok (.invokevirtual 297, 3) := by decide +kernel
theorem dX9_about_6 : decode cX9_about 6 = .ok (.ireturn, 1) := by decide +kernel
theorem dX9_adds_0 : decode cX9_adds 0 = .ok (.aload_n 0, 1) := by decide +kernel
theorem dX9_adds_1 : decode cX9_adds 1 = .ok (.getfield 44, 3) := by decide +kernel
theorem dX9_adds_10 : decode cX9_adds 10 = .ok (.getfield 35, 3) := by decide +kernel
theorem dX9_adds_13 : decode cX9_adds 13 = .ok (.iload_n 1, 1) := by decide +kernel
theorem dX9_adds_14 : decode cX9_adds 14 = .ok (.iaload, 1) := by decide +kernel
theorem dX9_adds_15 : decode cX9_adds 15 = .ok (.iadd, 1) := by decide +kernel
theorem dX9_adds_16 : decode cX9_adds 16 = .ok (.iload_n 2, 1) := by decide +kernel
theorem dX9_adds_17 : decode cX9_adds 17 = .ok (.iastore, 1) := by decide +kernel
theorem dX9_adds_18 : decode cX9_adds 18 = .ok (.aload_n 0, 1) := by decide +kernel
theorem dX9_adds_19 : decode cX9_adds 19 = .ok (.getfield 47, 3) := by decide +kernel
theorem dX9_adds_22 : decode cX9_adds 22 = .ok (.sipush 160, 3) := by decide +kernel
theorem dX9_adds_25 : decode cX9_adds 25 = .ok (.iload_n 1, 1) := by decide +kernel
theorem dX9_adds_26 : decode cX9_adds 26 = .ok (.imul, 1) := by decide +kernel
theorem dX9_adds_27 : decode cX9_adds 27 = .ok (.aload_n 0, 1) := by decide +kernel
theorem dX9_adds_28 : decode cX9_adds 28 = .ok (.getfield 35, 3) := by decide +kernel
theorem dX9_adds_31 : decode cX9_adds 31 = .ok (.iload_n 1, 1) := by decide +kernel
theorem dX9_adds_32 : decode cX9_adds 32 = .ok (.iaload, 1) := by decide +kernel
theorem dX9_adds_33 : decode cX9_adds 33 = .ok (.iadd, 1) := by decide +kernel
theorem dX9_adds_34 : decode cX9_adds 34 = .ok (.lload_n 3, 1) := by decide +kernel
theorem dX9_adds_35 : decode cX9_adds 35 = .ok (.lastore, 1) := by decide +kernel
theorem dX9_adds_36 : decode cX9_adds 36 = .ok (.aload_n 0, 1) := by decide +kernel
theorem dX9_adds_37 : decode cX9_adds 37 = .ok (.getfield 35, 3) := by decide +kernel
theorem dX9_adds_4 : decode cX9_adds 4 = .ok (.sipush 160, 3) := by decide +kernel
theorem dX9_adds_40 : decode cX9_adds 40 = .ok (.iload_n 1, 1) := by decide +kernel
theorem dX9_adds_41 : decode cX9_adds 41 = .ok (.dup2, 1) := by decide +kernel
theorem dX9_adds_42 : decode cX9_adds 42 = .ok (.iaload, 1) := by decide +kernel
theorem dX9_adds_43 : decode cX9_adds 43 = .ok (.iconst 1, 1) := by decide +kernel
theorem dX9_adds_44 : decode cX9_adds 44 = .ok (.iadd, 1) := by decide +kernel
theorem dX9_adds_45 : decode cX9_adds 45 = .ok (.iastore, 1) := by decide +kernel
theorem dX9_adds_46 : decode cX9_adds 46 = .ok (.return_, 1) := by decide +kernel
theorem dX9_adds_7 : decode cX9_adds 7 = .ok (.iload_n 1, 1) := by decide +kernel
theorem dX9_adds_8 : decode cX9_adds 8 = .ok (.imul, 1) := by decide +kernel
theorem dX9_adds_9 : decode cX9_adds 9 = .ok (.aload_n 0, 1) := by decide +kernel
theorem dX9_beat_0 : decode cX9_beat 0 = .ok (.aload_n 0, 1) := by decide +kernel
theorem dX9_beat_1 : decode cX9_beat 1 = .ok (.iconst 0, 1) := by decide +kernel
theorem dX9_beat_10 : decode cX9_beat 10 = .ok (.istore_n 2, 1) := by decide +kernel
theorem dX9_beat_11 : decode cX9_beat 11 = .ok (.iload_n 2, 1) := by decide +kernel
theorem dX9_beat_12 : decode cX9_beat 12 = .ok (.iconst (-1), 1) := by decide +kernel
theorem dX9_beat_13 : decode cX9_beat 13 = .ok (.if_icmp .eq 16, 3) := by decide +kernel
theorem dX9_beat_2 : decode cX9_beat 2 = .ok (.putfield 90, 3) := by decide +kernel
theorem dX9_beat_29 : decode cX9_beat 29 = .ok (.iload_n 2, 1) := by decide +kernel
theorem dX9_beat_30 : decode cX9_beat 30 = .ok (.iconst (-1), 1) := by decide +kernel
theorem dX9_beat_31 : decode cX9_beat 31 = .ok (.if_icmp .eq 7, 3) := by decide +kernel
theorem dX9_beat_38 : decode cX9_beat 38 = .ok (.iconst 0, 1) := by decide +kernel
theorem dX9_beat_39 : decode cX9_beat 39 = .ok (.ireturn, 1) := by decide +kernel
theorem dX9_beat_5 : decode cX9_beat 5 = .ok (.aload_n 0, 1) := by decide +kernel
theorem dX9_beat_6 : decode cX9_beat 6 = .ok (.iload_n 1, 1) := by decide +kernel
theorem dX9_beat_7 : decode cX9_beat 7 = .ok (.invokevirtual 285, 3) := by decide +kernel
theorem dX9_begets_0 : decode cX9_begets 0 = .ok (.aload_n 0, 1) := by decide +kernel
theorem dX9_begets_1 : decode cX9_begets 1 = .ok (.getfield 93, 3) := by decide +kernel
theorem dX9_begets_11 : decode cX9_begets 11 = .ok (.aload_n 0, 1) := by decide +kernel
theorem dX9_begets_12 : decode cX9_begets 12 = .ok (.getfield 93, 3) := by decide +kernel
theorem dX9_begets_15 : decode cX9_begets 15 = .ok (.istore 5, 2) := by decide +kernel
theorem dX9_begets_17 : decode cX9_begets 17 = .ok (.aload_n 0, 1) := by decide +kernel
theorem dX9_begets_18 : decode cX9_begets 18 = .ok (.dup, 1) := by decide +kernel
theorem dX9_begets_19 : decode cX9_begets 19 = .ok (.getfield 93, 3) := by decide +kernel
theorem dX9_begets_22 : decode cX9_begets 22 = .ok (.iconst 1, 1) := by decide +kernel
theorem dX9_begets_23 : decode cX9_begets 23 = .ok (.iadd, 1) := by decide +kernel
theorem dX9_begets_24 : decode cX9_begets 24 = .ok (.putfield 93, 3) := by decide +kernel
theorem dX9_begets_27 : decode cX9_begets 27 = .ok (.aload_n 0, 1) := by decide +kernel
theorem dX9_begets_28 : decode cX9_begets 28 = .ok (.getfield 23, 3) := by decide +kernel
theorem dX9_begets_31 : decode cX9_begets 31 = .ok (.iload 5, 2) := by decide +kernel
theorem dX9_begets_33 : decode cX9_begets 33 = .ok (.iload_n 1, 1) := by decide +kernel
theorem dX9_begets_34 : decode cX9_begets 34 = .ok (.iastore, 1) := by decide +kernel
theorem dX9_begets_35 : decode cX9_begets 35 = .ok (.aload_n 0, 1) := by decide +kernel
theorem dX9_begets_36 : decode cX9_begets 36 = .ok (.getfield 26, 3) := by decide +kernel
theorem dX9_begets_39 : decode cX9_begets 39 = .ok (.iload 5, 2) := by decide +kernel
theorem dX9_begets_4 : decode cX9_begets 4 = .ok (.bipush 40, 2) := by decide +kernel
theorem dX9_begets_41 : decode cX9_begets 41 = .ok (.iload_n 3, 1) := by decide +kernel
theorem dX9_begets_42 : decode cX9_begets 42 = .ok (.iastore, 1) := by decide +kernel
theorem dX9_begets_43 : decode cX9_begets 43 = .ok (.aload_n 0, 1) := by decide +kernel
theorem dX9_begets_44 : decode cX9_begets 44 = .ok (.getfield 29, 3) := by decide +kernel
theorem dX9_begets_47 : decode cX9_begets 47 = .ok (.iload 5, 2) := by decide +kernel
theorem dX9_begets_49 : decode cX9_begets 49 = .ok (.iload 4, 2) := by decide +kernel
theorem dX9_begets_51 : decode cX9_begets 51 = .ok (.iconst (-1), 1) := by decide +kernel
theorem dX9_begets_52 : decode cX9_begets 52 = .ok (.if_icmp .ne 8, 3) := by decide +kernel
theorem dX9_begets_55 : decode cX9_begets 55 = .ok (.iload 5, 2) := by decide +kernel
theorem dX9_begets_57 : decode cX9_begets 57 = .ok (.goto 5, 3) := by decide +kernel
theorem dX9_begets_6 : decode cX9_begets 6 = .ok (.if_icmp .ne 5, 3) := by decide +kernel
theorem dX9_begets_62 : decode cX9_begets 62 = .ok (.iastore, 1) := by decide +kernel
theorem dX9_begets_63 : decode cX9_begets 63 = .ok (.aload_n 0, 1) := by decide +kernel
theorem dX9_begets_64 : decode cX9_begets 64 = .ok (.getfield 41, 3) := by decide +kernel
theorem dX9_begets_67 : decode cX9_begets 67 = .ok (.iload 5, 2) := by decide +kernel
theorem dX9_begets_69 : decode cX9_begets 69 = .ok (.iconst (-1), 1) := by decide +kernel
theorem dX9_begets_70 : decode cX9_begets 70 = .ok (.iastore, 1) := by decide +kernel
theorem dX9_begets_71 : decode cX9_begets 71 = .ok (.aload_n 0, 1) := by decide +kernel
theorem dX9_begets_72 : decode cX9_begets 72 = .ok (.iload 5, 2) := by decide +kernel
theorem dX9_begets_74 : decode cX9_begets 74 = .ok (.iconst 0, 1) := by decide +kernel
theorem dX9_begets_75 : decode cX9_begets 75 = .ok (.iload_n 2, 1) := by decide +kernel
theorem dX9_begets_76 : decode cX9_begets 76 = .ok (.i2l, 1) := by decide +kernel
theorem dX9_begets_77 : decode cX9_begets 77 = .ok (.invokevirtual 143, 3) := by decide +kernel
theorem dX9_begets_80 : decode cX9_begets 80 = .ok (.iload 5, 2) := by decide +kernel
theorem dX9_begets_82 : decode cX9_begets 82 = .ok (.ireturn, 1) := by decide +kernel
theorem dX9_begins_0 : decode cX9_begins 0 = .ok (.aload_n 0, 1) := by decide +kernel
theorem dX9_begins_1 : decode cX9_begins 1 = .ok (.iconst 1, 1) := by decide +kernel
theorem dX9_begins_10 : decode cX9_begins 10 = .ok (.aload_n 0, 1) := by decide +kernel
theorem dX9_begins_11 : decode cX9_begins 11 = .ok (.iconst 0, 1) := by decide +kernel
theorem dX9_begins_12 : decode cX9_begins 12 = .ok (.putfield 110, 3) := by decide +kernel
theorem dX9_begins_15 : decode cX9_begins 15 = .ok (.aload_n 0, 1) := by decide +kernel
theorem dX9_begins_16 : decode cX9_begins 16 = .ok (.iconst 0, 1) := by decide +kernel
theorem dX9_begins_17 : decode cX9_begins 17 = .ok (.putfield 113, 3) := by decide +kernel
theorem dX9_begins_2 : decode cX9_begins 2 = .ok (.putfield 103, 3) := by decide +kernel
theorem dX9_begins_20 : decode cX9_begins 20 = .ok (.aload_n 0, 1) := by decide +kernel
theorem dX9_begins_21 : decode cX9_begins 21 = .ok (.iconst 0, 1) := by decide +kernel
theorem dX9_begins_22 : decode cX9_begins 22 = .ok (.putfield 116, 3) := by decide +kernel
theorem dX9_begins_25 : decode cX9_begins 25 = .ok (.aload_n 0, 1) := by decide +kernel
theorem dX9_begins_26 : decode cX9_begins 26 = .ok (.iconst 0, 1) := by decide +kernel
theorem dX9_begins_27 : decode cX9_begins 27 = .ok (.putfield 119, 3) := by decide +kernel
theorem dX9_begins_30 : decode cX9_begins 30 = .ok (.aload_n 0, 1) := by decide +kernel
theorem dX9_begins_31 : decode cX9_begins 31 = .ok (.iconst 0, 1) := by decide +kernel
theorem dX9_begins_32 : decode cX9_begins 32 = .ok (.putfield 122, 3) := by decide +kernel
theorem dX9_begins_35 : decode cX9_begins 35 = .ok (.aload_n 0, 1) := by decide +kernel
theorem dX9_begins_36 : decode cX9_begins 36 = .ok (.iconst 0, 1) := by decide +kernel
theorem dX9_begins_37 : decode cX9_begins 37 = .ok (.putfield 125, 3) := by decide +kernel
theorem dX9_begins_40 : decode cX9_begins 40 = .ok (.aload_n 0, 1) := by decide +kernel
theorem dX9_begins_41 : decode cX9_begins 41 = .ok (.iconst 0, 1) := by decide +kernel
theorem dX9_begins_42 : decode cX9_begins 42 = .ok (.putfield 128, 3) := by decide +kernel
theorem dX9_begins_45 : decode cX9_begins 45 = .ok (.aload_n 0, 1) := by decide +kernel
theorem dX9_begins_46 : decode cX9_begins 46 = .ok (.iconst 0, 1) := by decide +kernel
theorem dX9_begins_47 : decode cX9_begins 47 = .ok (.putfield 131, 3) := by decide +kernel
theorem dX9_begins_5 : decode cX9_begins 5 = .ok (.aload_n 0, 1) := by decide +kernel
theorem dX9_begins_50 : decode cX9_begins 50 = .ok (.aload_n 0, 1) := by decide +kernel
theorem dX9_begins_51 : decode cX9_begins 51 = .ok (.iconst 0, 1) := by decide +kernel
theorem dX9_begins_52 : decode cX9_begins 52 = .ok (.putfield 134, 3) := by decide +kernel
theorem dX9_begins_55 : decode cX9_begins 55 = .ok (.aload_n 0, 1) := by decide +kernel
theorem dX9_begins_56 : decode cX9_begins 56 = .ok (.iconst 0, 1) := by decide +kernel
theorem dX9_begins_57 : decode cX9_begins 57 = .ok (.putfield 137, 3) := by decide +kernel
theorem dX9_begins_6 : decode cX9_begins 6 = .ok (.iconst 0, 1) := by decide +kernel
theorem dX9_begins_60 : decode cX9_begins 60 = .ok (.aload_n 0, 1) := by decide +kernel
theorem dX9_begins_61 : decode cX9_begins 61 = .ok (.iconst 0, 1) := by decide +kernel
theorem dX9_begins_62 : decode cX9_begins 62 = .ok (.putfield 140, 3) := by decide +kernel
theorem dX9_begins_65 : decode cX9_begins 65 = .ok (.return_, 1) := by decide +kernel
theorem dX9_begins_7 : decode cX9_begins 7 = .ok (.putfield 107, 3) := by decide +kernel
theorem dX9_cancel_0 : decode cX9_cancel 0 = .ok (.aload_n 0, 1) := by decide +kernel
theorem dX9_cancel_1 : decode cX9_cancel 1 = .ok (.aload_n 0, 1) := by decide +kernel
theorem dX9_cancel_2 : decode cX9_cancel 2 = .ok (.iload_n 1, 1) := by decide +kernel
theorem dX9_cancel_27 : decode cX9_cancel 27 = .ok (.iconst 0, 1) := by decide +kernel
theorem dX9_cancel_28 : decode cX9_cancel 28 = .ok (.ireturn, 1) := by decide +kernel
theorem dX9_cancel_3 : decode cX9_cancel 3 = .ok (.invokevirtual 262, 3) := by decide +kernel
theorem dX9_cancel_6 : decode cX9_cancel 6 = .ok (.invokevirtual 269, 3) := by decide +kernel
theorem dX9_cancel_9 : decode cX9_cancel 9 = .ok (.ifCond .eq 18, 3) := by decide +kernel
theorem dX9_check_0 : decode cX9_check 0 = .ok (.aload_n 0, 1) := by decide +kernel
theorem dX9_check_1 : decode cX9_check 1 = .ok (.iload_n 1, 1) := by decide +kernel
theorem dX9_check_11 : decode cX9_check 11 = .ok (.invokestatic 242, 3) := by decide +kernel
theorem dX9_check_14 : decode cX9_check 14 = .ok (.invokevirtual 245, 3) := by decide +kernel
theorem dX9_check_17 : decode cX9_check 17 = .ok (.ifCond .ne 5, 3) := by decide +kernel
theorem dX9_check_2 : decode cX9_check 2 = .ok (.iload_n 2, 1) := by decide +kernel
theorem dX9_check_20 : decode cX9_check 20 = .ok (.iconst 0, 1) := by decide +kernel
theorem dX9_check_21 : decode cX9_check 21 = .ok (.ireturn, 1) := by decide +kernel
theorem dX9_check_22 : decode cX9_check 22 = .ok (.bipush 20, 2) := by decide +kernel
theorem dX9_check_24 : decode cX9_check 24 = .ok (.iload_n 1, 1) := by decide +kernel
theorem dX9_check_25 : decode cX9_check 25 = .ok (.imul, 1) := by decide +kernel
theorem dX9_check_26 : decode cX9_check 26 = .ok (.iload_n 2, 1) := by decide +kernel
theorem dX9_check_27 : decode cX9_check 27 = .ok (.iadd, 1) := by decide +kernel
theorem dX9_check_28 : decode cX9_check 28 = .ok (.istore 6, 2) := by decide +kernel
theorem dX9_check_3 : decode cX9_check 3 = .ok (.invokestatic 238, 3) := by decide +kernel
theorem dX9_check_30 : decode cX9_check 30 = .ok (.aload_n 0, 1) := by decide +kernel
theorem dX9_check_31 : decode cX9_check 31 = .ok (.getfield 13, 3) := by decide +kernel
theorem dX9_check_34 : decode cX9_check 34 = .ok (.iload 6, 2) := by decide +kernel
theorem dX9_check_36 : decode cX9_check 36 = .ok (.iaload, 1) := by decide +kernel
theorem dX9_check_37 : decode cX9_check 37 = .ok (.istore 7, 2) := by decide +kernel
theorem dX9_check_39 : decode cX9_check 39 = .ok (.aload_n 0, 1) := by decide +kernel
theorem dX9_check_40 : decode cX9_check 40 = .ok (.getfield 17, 3) := by decide +kernel
theorem dX9_check_43 : decode cX9_check 43 = .ok (.iload 6, 2) := by decide +kernel
theorem dX9_check_45 : decode cX9_check 45 = .ok (.iaload, 1) := by decide +kernel
theorem dX9_check_46 : decode cX9_check 46 = .ok (.istore 8, 2) := by decide +kernel
theorem dX9_check_48 : decode cX9_check 48 = .ok (.aload_n 0, 1) := by decide +kernel
theorem dX9_check_49 : decode cX9_check 49 = .ok (.getfield 20, 3) := by decide +kernel
theorem dX9_check_52 : decode cX9_check 52 = .ok (.iload 6, 2) := by decide +kernel
theorem dX9_check_54 : decode cX9_check 54 = .ok (.iaload, 1) := by decide +kernel
theorem dX9_check_55 : decode cX9_check 55 = .ok (.istore 9, 2) := by decide +kernel
theorem dX9_check_57 : decode cX9_check 57 = .ok (.aload_n 0, 1) := by decide +kernel
theorem dX9_check_58 : decode cX9_check 58 = .ok (.iload_n 1, 1) := by decide +kernel
theorem dX9_check_59 : decode cX9_check 59 = .ok (.iload_n 2, 1) := by decide +kernel
theorem dX9_check_6 : decode cX9_check 6 = .ok (.iload_n 3, 1) := by decide +kernel
theorem dX9_check_60 : decode cX9_check 60 = .ok (.iload_n 3, 1) := by decide +kernel
theorem dX9_check_61 : decode cX9_check 61 = .ok (.iload 4, 2) := by decide +kernel
theorem dX9_check_63 : decode cX9_check 63 = .ok (.iload 5, 2) := by decide +kernel
theorem dX9_check_65 : decode cX9_check 65 = .ok (.invokevirtual 249, 3) := by decide +kernel
theorem dX9_check_68 : decode cX9_check 68 = .ok (.aload_n 0, 1) := by decide +kernel
theorem dX9_check_69 : decode cX9_check 69 = .ok (.iload_n 1, 1) := by decide +kernel
theorem dX9_check_7 : decode cX9_check 7 = .ok (.iload 4, 2) := by decide +kernel
theorem dX9_check_70 : decode cX9_check 70 = .ok (.invokevirtual 256, 3) := by decide +kernel
theorem dX9_check_73 : decode cX9_check 73 = .ok (.istore 10, 2) := by decide +kernel
theorem dX9_check_75 : decode cX9_check 75 = .ok (.aload_n 0, 1) := by decide +kernel
theorem dX9_check_76 : decode cX9_check 76 = .ok (.iload_n 1, 1) := by decide +kernel
theorem dX9_check_77 : decode cX9_check 77 = .ok (.iload_n 2, 1) := by decide +kernel
theorem dX9_check_78 : decode cX9_check 78 = .ok (.iload 7, 2) := by decide +kernel
theorem dX9_check_80 : decode cX9_check 80 = .ok (.iload 8, 2) := by decide +kernel
theorem dX9_check_82 : decode cX9_check 82 = .ok (.iload 9, 2) := by decide +kernel
theorem dX9_check_84 : decode cX9_check 84 = .ok (.invokevirtual 249, 3) := by decide +kernel
theorem dX9_check_87 : decode cX9_check 87 = .ok (.iload 10, 2) := by decide +kernel
theorem dX9_check_89 : decode cX9_check 89 = .ok (.ireturn, 1) := by decide +kernel
theorem dX9_check_9 : decode cX9_check 9 = .ok (.iload 5, 2) := by decide +kernel
theorem dX9_complete_0 : decode cX9_complete 0 = .ok (.aload_n 0, 1) := by decide +kernel
theorem dX9_complete_1 : decode cX9_complete 1 = .ok (.iload_n 2, 1) := by decide +kernel
theorem dX9_complete_11 : decode cX9_complete 11 = .ok (.invokevirtual 269, 3) := by decide +kernel
theorem dX9_complete_14 : decode cX9_complete 14 = .ok (.ifCond .ne 5, 3) := by decide +kernel
theorem dX9_complete_17 : decode cX9_complete 17 = .ok (.iconst 0, 1) := by decide +kernel
theorem dX9_complete_18 : decode cX9_complete 18 = .ok (.ireturn, 1) := by decide +kernel
theorem dX9_complete_19 : decode cX9_complete 19 = .ok (.aload_n 0, 1) := by decide +kernel
theorem dX9_complete_2 : decode cX9_complete 2 = .ok (.sipush (-999), 3) := by decide +kernel
theorem dX9_complete_20 : decode cX9_complete 20 = .ok (.iload_n 1, 1) := by decide +kernel
theorem dX9_complete_21 : decode cX9_complete 21 = .ok (.invokevirtual 285, 3) := by decide +kernel
theorem dX9_complete_24 : decode cX9_complete 24 = .ok (.istore_n 3, 1) := by decide +kernel
theorem dX9_complete_25 : decode cX9_complete 25 = .ok (.iload_n 3, 1) := by decide +kernel
theorem dX9_complete_26 : decode cX9_complete 26 = .ok (.iconst (-1), 1) := by decide +kernel
theorem dX9_complete_27 : decode cX9_complete 27 = .ok (.if_icmp .eq 11, 3) := by decide +kernel
theorem dX9_complete_38 : decode cX9_complete 38 = .ok (.iload_n 3, 1) := by decide +kernel
theorem dX9_complete_39 : decode cX9_complete 39 = .ok (.iconst (-1), 1) := by decide +kernel
theorem dX9_complete_40 : decode cX9_complete 40 = .ok (.if_icmp .eq 7, 3) := by decide +kernel
theorem dX9_complete_47 : decode cX9_complete 47 = .ok (.iconst 0, 1) := by decide +kernel
theorem dX9_complete_48 : decode cX9_complete 48 = .ok (.ireturn, 1) := by decide +kernel
theorem dX9_complete_5 : decode cX9_complete 5 = .ok (.sipush 999, 3) := by decide +kernel
theorem dX9_complete_8 : decode cX9_complete 8 = .ok (.invokestatic 96, 3) := by decide +kernel
theorem dX9_crash_0 : decode cX9_crash 0 = .ok (.aload_n 0, 1) := by decide +kernel
theorem dX9_crash_1 : decode cX9_crash 1 = .ok (.iconst 0, 1) := by decide +kernel
theorem dX9_crash_10 : decode cX9_crash 10 = .ok (.aload_n 0, 1) := by decide +kernel
theorem dX9_crash_11 : decode cX9_crash 11 = .ok (.getfield 93, 3) := by decide +kernel
theorem dX9_crash_14 : decode cX9_crash 14 = .ok (.if_icmp .ge 26, 3) := by decide +kernel
theorem dX9_crash_2 : decode cX9_crash 2 = .ok (.putfield 90, 3) := by decide +kernel
theorem dX9_crash_40 : decode cX9_crash 40 = .ok (.iload_n 1, 1) := by decide +kernel
theorem dX9_crash_41 : decode cX9_crash 41 = .ok (.ireturn, 1) := by decide +kernel
theorem dX9_crash_5 : decode cX9_crash 5 = .ok (.iconst 0, 1) := by decide +kernel
theorem dX9_crash_6 : decode cX9_crash 6 = .ok (.istore_n 1, 1) := by decide +kernel
theorem dX9_crash_7 : decode cX9_crash 7 = .ok (.iconst 0, 1) := by decide +kernel
theorem dX9_crash_8 : decode cX9_crash 8 = .ok (.istore_n 2, 1) := by decide +kernel
theorem dX9_crash_9 : decode cX9_crash 9 = .ok (.iload_n 2, 1) := by decide +kernel
theorem dX9_events_0 : decode cX9_events 0 = .ok (.aload_n 0, 1) := by decide +kernel
theorem dX9_events_1 : decode cX9_events 1 = .ok (.aload_n 0, 1) := by decide +kernel
theorem dX9_events_2 : decode cX9_events 2 = .ok (.iload_n 1, 1) := by decide +kernel
theorem dX9_events_21 : decode cX9_events 21 = .ok (.iconst 0, 1) := by decide +kernel
theorem dX9_events_22 : decode cX9_events 22 = .ok (.ireturn, 1) := by decide +kernel
theorem dX9_events_3 : decode cX9_events 3 = .ok (.invokevirtual 262, 3) := by decide +kernel
theorem dX9_events_6 : decode cX9_events 6 = .ok (.invokevirtual 269, 3) := by decide +kernel
theorem dX9_events_9 : decode cX9_events 9 = .ok (.ifCond .eq 12, 3) := by decide +kernel
theorem dX9_fail_0 : decode cX9_fail 0 = .ok (.aload_n 0, 1) := by decide +kernel
theorem dX9_fail_1 : decode cX9_fail 1 = .ok (.iconst 0, 1) := by decide +kernel
theorem dX9_fail_10 : decode cX9_fail 10 = .ok (.istore_n 2, 1) := by decide +kernel
theorem dX9_fail_11 : decode cX9_fail 11 = .ok (.iload_n 2, 1) := by decide +kernel
theorem dX9_fail_12 : decode cX9_fail 12 = .ok (.iconst (-1), 1) := by decide +kernel
theorem dX9_fail_13 : decode cX9_fail 13 = .ok (.if_icmp .eq 8, 3) := by decide +kernel
theorem dX9_fail_2 : decode cX9_fail 2 = .ok (.putfield 90, 3) := by decide +kernel
theorem dX9_fail_21 : decode cX9_fail 21 = .ok (.iload_n 2, 1) := by decide +kernel
theorem dX9_fail_22 : decode cX9_fail 22 = .ok (.iconst (-1), 1) := by decide +kernel
theorem dX9_fail_23 : decode cX9_fail 23 = .ok (.if_icmp .eq 7, 3) := by decide +kernel
theorem dX9_fail_30 : decode cX9_fail 30 = .ok (.iconst 0, 1) := by decide +kernel
theorem dX9_fail_31 : decode cX9_fail 31 = .ok (.ireturn, 1) := by decide +kernel
theorem dX9_fail_5 : decode cX9_fail 5 = .ok (.aload_n 0, 1) := by decide +kernel
theorem dX9_fail_6 : decode cX9_fail 6 = .ok (.iload_n 1, 1) := by decide +kernel
theorem dX9_fail_7 : decode cX9_fail 7 = .ok (.invokevirtual 285, 3) := by decide +kernel
theorem dX9_goesOn_0 : decode cX9_goesOn 0 = .ok (.iconst 1, 1) := by decide +kernel
theorem dX9_goesOn_1 : decode cX9_goesOn 1 = .ok (.istore_n 2, 1) := by decide +kernel
theorem dX9_goesOn_10 : decode cX9_goesOn 10 = .ok (.ifCond .le 96, 3) := by decide +kernel
theorem dX9_goesOn_100 : decode cX9_goesOn 100 = .ok (.invokevirtual 220, 3) := by decide +kernel
theorem dX9_goesOn_103 : decode cX9_goesOn 103 = .ok (.goto (-94), 3) := by decide +kernel
theorem dX9_goesOn_106 : decode cX9_goesOn 106 = .ok (.return_, 1) := by decide +kernel
theorem dX9_goesOn_13 : decode cX9_goesOn 13 = .ok (.aload_n 0, 1) := by decide +kernel
theorem dX9_goesOn_14 : decode cX9_goesOn 14 = .ok (.getfield 81, 3) := by decide +kernel
theorem dX9_goesOn_17 : decode cX9_goesOn 17 = .ok (.iload_n 2, 1) := by decide +kernel
theorem dX9_goesOn_18 : decode cX9_goesOn 18 = .ok (.iconst 1, 1) := by decide +kernel
theorem dX9_goesOn_19 : decode cX9_goesOn 19 = .ok (.isub, 1) := by decide +kernel
theorem dX9_goesOn_2 : decode cX9_goesOn 2 = .ok (.aload_n 0, 1) := by decide +kernel
theorem dX9_goesOn_20 : decode cX9_goesOn 20 = .ok (.iaload, 1) := by decide +kernel
theorem dX9_goesOn_21 : decode cX9_goesOn 21 = .ok (.istore_n 3, 1) := by decide +kernel
theorem dX9_goesOn_22 : decode cX9_goesOn 22 = .ok (.aload_n 0, 1) := by decide +kernel
theorem dX9_goesOn_23 : decode cX9_goesOn 23 = .ok (.getfield 32, 3) := by decide +kernel
theorem dX9_goesOn_26 : decode cX9_goesOn 26 = .ok (.iload_n 3, 1) := by decide +kernel
theorem dX9_goesOn_27 : decode cX9_goesOn 27 = .ok (.iaload, 1) := by decide +kernel
theorem dX9_goesOn_28 : decode cX9_goesOn 28 = .ok (.ifCond .le 7, 3) := by decide +kernel
theorem dX9_goesOn_3 : decode cX9_goesOn 3 = .ok (.getfield 81, 3) := by decide +kernel
theorem dX9_goesOn_35 : decode cX9_goesOn 35 = .ok (.aload_n 0, 1) := by decide +kernel
theorem dX9_goesOn_36 : decode cX9_goesOn 36 = .ok (.iload_n 3, 1) := by decide +kernel
theorem dX9_goesOn_37 : decode cX9_goesOn 37 = .ok (.aload_n 0, 1) := by decide +kernel
theorem dX9_goesOn_38 : decode cX9_goesOn 38 = .ok (.getfield 35, 3) := by decide +kernel
theorem dX9_goesOn_41 : decode cX9_goesOn 41 = .ok (.iload_n 3, 1) := by decide +kernel
theorem dX9_goesOn_42 : decode cX9_goesOn 42 = .ok (.iaload, 1) := by decide +kernel
theorem dX9_goesOn_43 : decode cX9_goesOn 43 = .ok (.iconst 1, 1) := by decide +kernel
theorem dX9_goesOn_44 : decode cX9_goesOn 44 = .ok (.invokevirtual 216, 3) := by decide +kernel
theorem dX9_goesOn_47 : decode cX9_goesOn 47 = .ok (.istore 4, 2) := by decide +kernel
theorem dX9_goesOn_49 : decode cX9_goesOn 49 = .ok (.iload 4, 2) := by decide +kernel
theorem dX9_goesOn_51 : decode cX9_goesOn 51 = .ok (.iconst (-1), 1) := by decide +kernel
theorem dX9_goesOn_52 : decode cX9_goesOn 52 = .ok (.if_icmp .eq 17, 3) := by decide +kernel
theorem dX9_goesOn_6 : decode cX9_goesOn 6 = .ok (.iconst 0, 1) := by decide +kernel
theorem dX9_goesOn_69 : decode cX9_goesOn 69 = .ok (.iinc 2 (-1), 3) := by decide +kernel
theorem dX9_goesOn_7 : decode cX9_goesOn 7 = .ok (.iload_n 1, 1) := by decide +kernel
theorem dX9_goesOn_72 : decode cX9_goesOn 72 = .ok (.aload_n 0, 1) := by decide +kernel
theorem dX9_goesOn_73 : decode cX9_goesOn 73 = .ok (.getfield 32, 3) := by decide +kernel
theorem dX9_goesOn_76 : decode cX9_goesOn 76 = .ok (.iload_n 3, 1) := by decide +kernel
theorem dX9_goesOn_77 : decode cX9_goesOn 77 = .ok (.iaload, 1) := by decide +kernel
theorem dX9_goesOn_78 : decode cX9_goesOn 78 = .ok (.ifCond .ne 25, 3) := by decide +kernel
theorem dX9_goesOn_8 : decode cX9_goesOn 8 = .ok (.iastore, 1) := by decide +kernel
theorem dX9_goesOn_81 : decode cX9_goesOn 81 = .ok (.aload_n 0, 1) := by decide +kernel
theorem dX9_goesOn_82 : decode cX9_goesOn 82 = .ok (.getfield 103, 3) := by decide +kernel
theorem dX9_goesOn_85 : decode cX9_goesOn 85 = .ok (.ifCond .eq 18, 3) := by decide +kernel
theorem dX9_goesOn_88 : decode cX9_goesOn 88 = .ok (.aload_n 0, 1) := by decide +kernel
theorem dX9_goesOn_89 : decode cX9_goesOn 89 = .ok (.getfield 38, 3) := by decide +kernel
theorem dX9_goesOn_9 : decode cX9_goesOn 9 = .ok (.iload_n 2, 1) := by decide +kernel
theorem dX9_goesOn_92 : decode cX9_goesOn 92 = .ok (.iload_n 3, 1) := by decide +kernel
theorem dX9_goesOn_93 : decode cX9_goesOn 93 = .ok (.aload_n 0, 1) := by decide +kernel
theorem dX9_goesOn_94 : decode cX9_goesOn 94 = .ok (.getfield 107, 3) := by decide +kernel
theorem dX9_goesOn_97 : decode cX9_goesOn 97 = .ok (.iastore, 1) := by decide +kernel
theorem dX9_goesOn_98 : decode cX9_goesOn 98 = .ok (.aload_n 0, 1) := by decide +kernel
theorem dX9_goesOn_99 : decode cX9_goesOn 99 = .ok (.iload_n 3, 1) := by decide +kernel
theorem dX9_in_0 : decode cX9_in 0 = .ok (.iload_n 0, 1) := by decide +kernel
theorem dX9_in_1 : decode cX9_in 1 = .ok (.iload_n 1, 1) := by decide +kernel
theorem dX9_in_10 : decode cX9_in 10 = .ok (.iconst 1, 1) := by decide +kernel
theorem dX9_in_11 : decode cX9_in 11 = .ok (.goto 4, 3) := by decide +kernel
theorem dX9_in_14 : decode cX9_in 14 = .ok (.iconst 0, 1) := by decide +kernel
theorem dX9_in_15 : decode cX9_in 15 = .ok (.ireturn, 1) := by decide +kernel
theorem dX9_in_2 : decode cX9_in 2 = .ok (.if_icmp .lt 12, 3) := by decide +kernel
theorem dX9_in_5 : decode cX9_in 5 = .ok (.iload_n 0, 1) := by decide +kernel
theorem dX9_in_6 : decode cX9_in 6 = .ok (.iload_n 2, 1) := by decide +kernel
theorem dX9_in_7 : decode cX9_in 7 = .ok (.if_icmp .gt 7, 3) := by decide +kernel
theorem dX9_init_0 : decode cX9_init 0 = .ok (.aload_n 0, 1) := by decide +kernel
theorem dX9_init_1 : decode cX9_init 1 = .ok (.invokespecial 1, 3) := by decide +kernel
theorem dX9_init_10 : decode cX9_init 10 = .ok (.bipush 120, 2) := by decide +kernel
theorem dX9_init_102 : decode cX9_init 102 = .ok (.newarray .long, 2) := by decide +kernel
theorem dX9_init_104 : decode cX9_init 104 = .ok (.putfield 47, 3) := by decide +kernel
theorem dX9_init_107 : decode cX9_init 107 = .ok (.aload_n 0, 1) := by decide +kernel
theorem dX9_init_108 : decode cX9_init 108 = .ok (.sipush 2100, 3) := by decide +kernel
theorem dX9_init_111 : decode cX9_init 111 = .ok (.newarray .int, 2) := by decide +kernel
theorem dX9_init_113 : decode cX9_init 113 = .ok (.putfield 51, 3) := by decide +kernel
theorem dX9_init_116 : decode cX9_init 116 = .ok (.aload_n 0, 1) := by decide +kernel
theorem dX9_init_117 : decode cX9_init 117 = .ok (.sipush 2100, 3) := by decide +kernel
theorem dX9_init_12 : decode cX9_init 12 = .ok (.newarray .int, 2) := by decide +kernel
theorem dX9_init_120 : decode cX9_init 120 = .ok (.newarray .int, 2) := by decide +kernel
theorem dX9_init_122 : decode cX9_init 122 = .ok (.putfield 54, 3) := by decide +kernel
theorem dX9_init_125 : decode cX9_init 125 = .ok (.aload_n 0, 1) := by decide +kernel
theorem dX9_init_126 : decode cX9_init 126 = .ok (.sipush 2100, 3) := by decide +kernel
theorem dX9_init_129 : decode cX9_init 129 = .ok (.newarray .int, 2) := by decide +kernel
theorem dX9_init_131 : decode cX9_init 131 = .ok (.putfield 57, 3) := by decide +kernel
theorem dX9_init_134 : decode cX9_init 134 = .ok (.aload_n 0, 1) := by decide +kernel
theorem dX9_init_135 : decode cX9_init 135 = .ok (.sipush 2100, 3) := by decide +kernel
theorem dX9_init_138 : decode cX9_init 138 = .ok (.newarray .int, 2) := by decide +kernel
theorem dX9_init_14 : decode cX9_init 14 = .ok (.putfield 13, 3) := by decide +kernel
theorem dX9_init_140 : decode cX9_init 140 = .ok (.putfield 60, 3) := by decide +kernel
theorem dX9_init_143 : decode cX9_init 143 = .ok (.aload_n 0, 1) := by decide +kernel
theorem dX9_init_144 : decode cX9_init 144 = .ok (.sipush 2100, 3) := by decide +kernel
theorem dX9_init_147 : decode cX9_init 147 = .ok (.newarray .int, 2) := by decide +kernel
theorem dX9_init_149 : decode cX9_init 149 = .ok (.putfield 63, 3) := by decide +kernel
theorem dX9_init_152 : decode cX9_init 152 = .ok (.aload_n 0, 1) := by decide +kernel
theorem dX9_init_153 : decode cX9_init 153 = .ok (.sipush 2100, 3) := by decide +kernel
theorem dX9_init_156 : decode cX9_init 156 = .ok (.newarray .int, 2) := by decide +kernel
theorem dX9_init_158 : decode cX9_init 158 = .ok (.putfield 66, 3) := by decide +kernel
theorem dX9_init_161 : decode cX9_init 161 = .ok (.aload_n 0, 1) := by decide +kernel
theorem dX9_init_162 : decode cX9_init 162 = .ok (.bipush 6, 2) := by decide +kernel
theorem dX9_init_164 : decode cX9_init 164 = .ok (.newarray .int, 2) := by decide +kernel
theorem dX9_init_166 : decode cX9_init 166 = .ok (.putfield 69, 3) := by decide +kernel
theorem dX9_init_169 : decode cX9_init 169 = .ok (.aload_n 0, 1) := by decide +kernel
theorem dX9_init_17 : decode cX9_init 17 = .ok (.aload_n 0, 1) := by decide +kernel
theorem dX9_init_170 : decode cX9_init 170 = .ok (.bipush 20, 2) := by decide +kernel
theorem dX9_init_172 : decode cX9_init 172 = .ok (.newarray .int, 2) := by decide +kernel
theorem dX9_init_174 : decode cX9_init 174 = .ok (.putfield 72, 3) := by decide +kernel
theorem dX9_init_177 : decode cX9_init 177 = .ok (.aload_n 0, 1) := by decide +kernel
theorem dX9_init_178 : decode cX9_init 178 = .ok (.sipush 160, 3) := by decide +kernel
theorem dX9_init_18 : decode cX9_init 18 = .ok (.bipush 120, 2) := by decide +kernel
theorem dX9_init_181 : decode cX9_init 181 = .ok (.newarray .int, 2) := by decide +kernel
theorem dX9_init_183 : decode cX9_init 183 = .ok (.putfield 75, 3) := by decide +kernel
theorem dX9_init_186 : decode cX9_init 186 = .ok (.aload_n 0, 1) := by decide +kernel
theorem dX9_init_187 : decode cX9_init 187 = .ok (.sipush 160, 3) := by decide +kernel
theorem dX9_init_190 : decode cX9_init 190 = .ok (.newarray .int, 2) := by decide +kernel
theorem dX9_init_192 : decode cX9_init 192 = .ok (.putfield 78, 3) := by decide +kernel
theorem dX9_init_195 : decode cX9_init 195 = .ok (.aload_n 0, 1) := by decide +kernel
theorem dX9_init_196 : decode cX9_init 196 = .ok (.bipush 50, 2) := by decide +kernel
theorem dX9_init_198 : decode cX9_init 198 = .ok (.newarray .int, 2) := by decide +kernel
theorem dX9_init_20 : decode cX9_init 20 = .ok (.newarray .int, 2) := by decide +kernel
theorem dX9_init_200 : decode cX9_init 200 = .ok (.putfield 81, 3) := by decide +kernel
theorem dX9_init_203 : decode cX9_init 203 = .ok (.aload_n 0, 1) := by decide +kernel
theorem dX9_init_204 : decode cX9_init 204 = .ok (.sipush 400, 3) := by decide +kernel
theorem dX9_init_207 : decode cX9_init 207 = .ok (.newarray .int, 2) := by decide +kernel
theorem dX9_init_209 : decode cX9_init 209 = .ok (.putfield 84, 3) := by decide +kernel
theorem dX9_init_212 : decode cX9_init 212 = .ok (.aload_n 0, 1) := by decide +kernel
theorem dX9_init_213 : decode cX9_init 213 = .ok (.sipush 400, 3) := by decide +kernel
theorem dX9_init_216 : decode cX9_init 216 = .ok (.newarray .int, 2) := by decide +kernel
theorem dX9_init_218 : decode cX9_init 218 = .ok (.putfield 87, 3) := by decide +kernel
theorem dX9_init_22 : decode cX9_init 22 = .ok (.putfield 17, 3) := by decide +kernel
theorem dX9_init_221 : decode cX9_init 221 = .ok (.return_, 1) := by decide +kernel
theorem dX9_init_25 : decode cX9_init 25 = .ok (.aload_n 0, 1) := by decide +kernel
theorem dX9_init_26 : decode cX9_init 26 = .ok (.bipush 120, 2) := by decide +kernel
theorem dX9_init_28 : decode cX9_init 28 = .ok (.newarray .int, 2) := by decide +kernel
theorem dX9_init_30 : decode cX9_init 30 = .ok (.putfield 20, 3) := by decide +kernel
theorem dX9_init_33 : decode cX9_init 33 = .ok (.aload_n 0, 1) := by decide +kernel
theorem dX9_init_34 : decode cX9_init 34 = .ok (.bipush 41, 2) := by decide +kernel
theorem dX9_init_36 : decode cX9_init 36 = .ok (.newarray .int, 2) := by decide +kernel
theorem dX9_init_38 : decode cX9_init 38 = .ok (.putfield 23, 3) := by decide +kernel
theorem dX9_init_4 : decode cX9_init 4 = .ok (.aload_n 0, 1) := by decide +kernel
theorem dX9_init_41 : decode cX9_init 41 = .ok (.aload_n 0, 1) := by decide +kernel
theorem dX9_init_42 : decode cX9_init 42 = .ok (.bipush 41, 2) := by decide +kernel
theorem dX9_init_44 : decode cX9_init 44 = .ok (.newarray .int, 2) := by decide +kernel
theorem dX9_init_46 : decode cX9_init 46 = .ok (.putfield 26, 3) := by decide +kernel
theorem dX9_init_49 : decode cX9_init 49 = .ok (.aload_n 0, 1) := by decide +kernel
theorem dX9_init_5 : decode cX9_init 5 = .ok (.iconst 1, 1) := by decide +kernel
theorem dX9_init_50 : decode cX9_init 50 = .ok (.bipush 41, 2) := by decide +kernel
theorem dX9_init_52 : decode cX9_init 52 = .ok (.newarray .int, 2) := by decide +kernel
theorem dX9_init_54 : decode cX9_init 54 = .ok (.putfield 29, 3) := by decide +kernel
theorem dX9_init_57 : decode cX9_init 57 = .ok (.aload_n 0, 1) := by decide +kernel
theorem dX9_init_58 : decode cX9_init 58 = .ok (.bipush 41, 2) := by decide +kernel
theorem dX9_init_6 : decode cX9_init 6 = .ok (.putfield 7, 3) := by decide +kernel
theorem dX9_init_60 : decode cX9_init 60 = .ok (.newarray .int, 2) := by decide +kernel
theorem dX9_init_62 : decode cX9_init 62 = .ok (.putfield 32, 3) := by decide +kernel
theorem dX9_init_65 : decode cX9_init 65 = .ok (.aload_n 0, 1) := by decide +kernel
theorem dX9_init_66 : decode cX9_init 66 = .ok (.bipush 41, 2) := by decide +kernel
theorem dX9_init_68 : decode cX9_init 68 = .ok (.newarray .int, 2) := by decide +kernel
theorem dX9_init_70 : decode cX9_init 70 = .ok (.putfield 35, 3) := by decide +kernel
theorem dX9_init_73 : decode cX9_init 73 = .ok (.aload_n 0, 1) := by decide +kernel
theorem dX9_init_74 : decode cX9_init 74 = .ok (.bipush 41, 2) := by decide +kernel
theorem dX9_init_76 : decode cX9_init 76 = .ok (.newarray .int, 2) := by decide +kernel
theorem dX9_init_78 : decode cX9_init 78 = .ok (.putfield 38, 3) := by decide +kernel
theorem dX9_init_81 : decode cX9_init 81 = .ok (.aload_n 0, 1) := by decide +kernel
theorem dX9_init_82 : decode cX9_init 82 = .ok (.bipush 41, 2) := by decide +kernel
theorem dX9_init_84 : decode cX9_init 84 = .ok (.newarray .int, 2) := by decide +kernel
theorem dX9_init_86 : decode cX9_init 86 = .ok (.putfield 41, 3) := by decide +kernel
theorem dX9_init_89 : decode cX9_init 89 = .ok (.aload_n 0, 1) := by decide +kernel
theorem dX9_init_9 : decode cX9_init 9 = .ok (.aload_n 0, 1) := by decide +kernel
theorem dX9_init_90 : decode cX9_init 90 = .ok (.sipush 6560, 3) := by decide +kernel
theorem dX9_init_93 : decode cX9_init 93 = .ok (.newarray .int, 2) := by decide +kernel
theorem dX9_init_95 : decode cX9_init 95 = .ok (.putfield 44, 3) := by decide +kernel
theorem dX9_init_98 : decode cX9_init 98 = .ok (.aload_n 0, 1) := by decide +kernel
theorem dX9_init_99 : decode cX9_init 99 = .ok (.sipush 6560, 3) := by decide +kernel
theorem dX9_isBounded_0 : decode cX9_isBounded 0 = .ok (.iload_n 0, 1) := by decide +kernel
theorem dX9_isBounded_1 : decode cX9_isBounded 1 = .ok (.iconst 1, 1) := by decide +kernel
theorem dX9_isBounded_10 : decode cX9_isBounded 10 = .ok (.iload_n 0, 1) := by decide +kernel
theorem dX9_isBounded_11 : decode cX9_isBounded 11 = .ok (.iconst 4, 1) := by decide +kernel
theorem dX9_isBounded_12 : decode cX9_isBounded 12 = .ok (.if_icmp .eq 33, 3) := by decide +kernel
theorem dX9_isBounded_15 : decode cX9_isBounded 15 = .ok (.iload_n 0, 1) := by decide +kernel
theorem dX9_isBounded_16 : decode cX9_isBounded 16 = .ok (.bipush 9, 2) := by decide +kernel
theorem dX9_isBounded_18 : decode cX9_isBounded 18 = .ok (.if_icmp .eq 27, 3) := by decide +kernel
theorem dX9_isBounded_2 : decode cX9_isBounded 2 = .ok (.if_icmp .eq 43, 3) := by decide +kernel
theorem dX9_isBounded_21 : decode cX9_isBounded 21 = .ok (.iload_n 0, 1) := by decide +kernel
theorem dX9_isBounded_22 : decode cX9_isBounded 22 = .ok (.bipush 10, 2) := by decide +kernel
theorem dX9_isBounded_24 : decode cX9_isBounded 24 = .ok (.if_icmp .eq 21, 3) := by decide +kernel
theorem dX9_isBounded_27 : decode cX9_isBounded 27 = .ok (.iload_n 0, 1) := by decide +kernel
theorem dX9_isBounded_28 : decode cX9_isBounded 28 = .ok (.bipush 11, 2) := by decide +kernel
theorem dX9_isBounded_30 : decode cX9_isBounded 30 = .ok (.if_icmp .eq 15, 3) := by decide +kernel
theorem dX9_isBounded_33 : decode cX9_isBounded 33 = .ok (.iload_n 0, 1) := by decide +kernel
theorem dX9_isBounded_34 : decode cX9_isBounded 34 = .ok (.bipush 14, 2) := by decide +kernel
theorem dX9_isBounded_36 : decode cX9_isBounded 36 = .ok (.if_icmp .eq 9, 3) := by decide +kernel
theorem dX9_isBounded_39 : decode cX9_isBounded 39 = .ok (.iload_n 0, 1) := by decide +kernel
theorem dX9_isBounded_40 : decode cX9_isBounded 40 = .ok (.bipush 17, 2) := by decide +kernel
theorem dX9_isBounded_42 : decode cX9_isBounded 42 = .ok (.if_icmp .ne 7, 3) := by decide +kernel
theorem dX9_isBounded_49 : decode cX9_isBounded 49 = .ok (.iconst 0, 1) := by decide +kernel
theorem dX9_isBounded_5 : decode cX9_isBounded 5 = .ok (.iload_n 0, 1) := by decide +kernel
theorem dX9_isBounded_50 : decode cX9_isBounded 50 = .ok (.ireturn, 1) := by decide +kernel
theorem dX9_isBounded_6 : decode cX9_isBounded 6 = .ok (.iconst 2, 1) := by decide +kernel
theorem dX9_isBounded_7 : decode cX9_isBounded 7 = .ok (.if_icmp .eq 38, 3) := by decide +kernel
theorem dX9_isEvent_0 : decode cX9_isEvent 0 = .ok (.aload_n 0, 1) := by decide +kernel
theorem dX9_isEvent_1 : decode cX9_isEvent 1 = .ok (.iload_n 1, 1) := by decide +kernel
theorem dX9_isEvent_2 : decode cX9_isEvent 2 = .ok (.invokevirtual 262, 3) := by decide +kernel
theorem dX9_isEvent_28 : decode cX9_isEvent 28 = .ok (.iconst 0, 1) := by decide +kernel
theorem dX9_isEvent_29 : decode cX9_isEvent 29 = .ok (.ireturn, 1) := by decide +kernel
theorem dX9_isEvent_5 : decode cX9_isEvent 5 = .ok (.ifCond .eq 23, 3) := by decide +kernel
theorem dX9_isOperation_0 : decode cX9_isOperation 0 = .ok (.iload_n 0, 1) := by decide +kernel
theorem dX9_isOperation_1 : decode cX9_isOperation 1 = .ok (.iconst 0, 1) := by decide +kernel
theorem dX9_isOperation_10 : decode cX9_isOperation 10 = .ok (.iload_n 1, 1) := by decide +kernel
theorem dX9_isOperation_11 : decode cX9_isOperation 11 = .ok (.iconst 0, 1) := by decide +kernel
theorem dX9_isOperation_12 : decode cX9_isOperation 12 = .ok (.bipush 99, 2) := by decide +kernel
theorem dX9_isOperation_14 : decode cX9_isOperation 14 = .ok (.invokestatic 96, 3) := by decide +kernel
theorem dX9_isOperation_17 : decode cX9_isOperation 17 = .ok (.ifCond .eq 17, 3) := by decide +kernel
theorem dX9_isOperation_2 : decode cX9_isOperation 2 = .ok (.bipush 17, 2) := by decide +kernel
theorem dX9_isOperation_20 : decode cX9_isOperation 20 = .ok (.iload_n 2, 1) := by decide +kernel
theorem dX9_isOperation_21 : decode cX9_isOperation 21 = .ok (.iconst 0, 1) := by decide +kernel
theorem dX9_isOperation_22 : decode cX9_isOperation 22 = .ok (.bipush 99, 2) := by decide +kernel
theorem dX9_isOperation_24 : decode cX9_isOperation 24 = .ok (.invokestatic 96, 3) := by decide +kernel
theorem dX9_isOperation_27 : decode cX9_isOperation 27 = .ok (.ifCond .eq 7, 3) := by decide +kernel
theorem dX9_isOperation_30 : decode cX9_isOperation 30 = .ok (.iconst 1, 1) := by decide +kernel
theorem dX9_isOperation_31 : decode cX9_isOperation 31 = .ok (.goto 4, 3) := by decide +kernel
theorem dX9_isOperation_34 : decode cX9_isOperation 34 = .ok (.iconst 0, 1) := by decide +kernel
theorem dX9_isOperation_35 : decode cX9_isOperation 35 = .ok (.ireturn, 1) := by decide +kernel
theorem dX9_isOperation_4 : decode cX9_isOperation 4 = .ok (.invokestatic 96, 3) := by decide +kernel
theorem dX9_isOperation_7 : decode cX9_isOperation 7 = .ok (.ifCond .eq 27, 3) := by decide +kernel
theorem dX9_isStep_0 : decode cX9_isStep 0 = .ok (.iload_n 0, 1) := by decide +kernel
theorem dX9_isStep_1 : decode cX9_isStep 1 = .ok (.iconst 0, 1) := by decide +kernel
theorem dX9_isStep_10 : decode cX9_isStep 10 = .ok (.iconst 0, 1) := by decide +kernel
theorem dX9_isStep_11 : decode cX9_isStep 11 = .ok (.bipush 19, 2) := by decide +kernel
theorem dX9_isStep_13 : decode cX9_isStep 13 = .ok (.invokestatic 96, 3) := by decide +kernel
theorem dX9_isStep_16 : decode cX9_isStep 16 = .ok (.ifCond .eq 7, 3) := by decide +kernel
theorem dX9_isStep_19 : decode cX9_isStep 19 = .ok (.iconst 1, 1) := by decide +kernel
theorem dX9_isStep_2 : decode cX9_isStep 2 = .ok (.iconst 5, 1) := by decide +kernel
theorem dX9_isStep_20 : decode cX9_isStep 20 = .ok (.goto 4, 3) := by decide +kernel
theorem dX9_isStep_23 : decode cX9_isStep 23 = .ok (.iconst 0, 1) := by decide +kernel
theorem dX9_isStep_24 : decode cX9_isStep 24 = .ok (.ireturn, 1) := by decide +kernel
theorem dX9_isStep_3 : decode cX9_isStep 3 = .ok (.invokestatic 96, 3) := by decide +kernel
theorem dX9_isStep_6 : decode cX9_isStep 6 = .ok (.ifCond .eq 17, 3) := by decide +kernel
theorem dX9_isStep_9 : decode cX9_isStep 9 = .ok (.iload_n 1, 1) := by decide +kernel
theorem dX9_isWorkflow_0 : decode cX9_isWorkflow 0 = .ok (.iload_n 1, 1) := by decide +kernel
theorem dX9_isWorkflow_1 : decode cX9_isWorkflow 1 = .ok (.iconst 0, 1) := by decide +kernel
theorem dX9_isWorkflow_11 : decode cX9_isWorkflow 11 = .ok (.ireturn, 1) := by decide +kernel
theorem dX9_isWorkflow_2 : decode cX9_isWorkflow 2 = .ok (.aload_n 0, 1) := by decide +kernel
theorem dX9_isWorkflow_3 : decode cX9_isWorkflow 3 = .ok (.getfield 93, 3) := by decide +kernel
theorem dX9_isWorkflow_6 : decode cX9_isWorkflow 6 = .ok (.iconst 1, 1) := by decide +kernel
theorem dX9_isWorkflow_7 : decode cX9_isWorkflow 7 = .ok (.isub, 1) := by decide +kernel
theorem dX9_isWorkflow_8 : decode cX9_isWorkflow 8 = .ok (.invokestatic 96, 3) := by decide +kernel
theorem dX9_kind_0 : decode cX9_kind 0 = .ok (.aload_n 0, 1) := by decide +kernel
theorem dX9_kind_1 : decode cX9_kind 1 = .ok (.aload_n 0, 1) := by decide +kernel
theorem dX9_kind_10 : decode cX9_kind 10 = .ok (.ifCond .eq 18, 3) := by decide +kernel
theorem dX9_kind_2 : decode cX9_kind 2 = .ok (.iload_n 1, 1) := by decide +kernel
theorem dX9_kind_28 : decode cX9_kind 28 = .ok (.iconst 0, 1) := by decide +kernel
theorem dX9_kind_29 : decode cX9_kind 29 = .ok (.ireturn, 1) := by decide +kernel
theorem dX9_kind_3 : decode cX9_kind 3 = .ok (.iload_n 2, 1) := by decide +kernel
theorem dX9_kind_4 : decode cX9_kind 4 = .ok (.invokevirtual 300, 3) := by decide +kernel
theorem dX9_kind_7 : decode cX9_kind 7 = .ok (.invokevirtual 269, 3) := by decide +kernel
theorem dX9_lays_0 : decode cX9_lays 0 = .ok (.aload_n 0, 1) := by decide +kernel
theorem dX9_lays_1 : decode cX9_lays 1 = .ok (.getfield 13, 3) := by decide +kernel
theorem dX9_lays_10 : decode cX9_lays 10 = .ok (.iload_n 3, 1) := by decide +kernel
theorem dX9_lays_11 : decode cX9_lays 11 = .ok (.iastore, 1) := by decide +kernel
theorem dX9_lays_12 : decode cX9_lays 12 = .ok (.aload_n 0, 1) := by decide +kernel
theorem dX9_lays_13 : decode cX9_lays 13 = .ok (.getfield 17, 3) := by decide +kernel
theorem dX9_lays_16 : decode cX9_lays 16 = .ok (.bipush 20, 2) := by decide +kernel
theorem dX9_lays_18 : decode cX9_lays 18 = .ok (.iload_n 1, 1) := by decide +kernel
theorem dX9_lays_19 : decode cX9_lays 19 = .ok (.imul, 1) := by decide +kernel
theorem dX9_lays_20 : decode cX9_lays 20 = .ok (.iload_n 2, 1) := by decide +kernel
theorem dX9_lays_21 : decode cX9_lays 21 = .ok (.iadd, 1) := by decide +kernel
theorem dX9_lays_22 : decode cX9_lays 22 = .ok (.iload 4, 2) := by decide +kernel
theorem dX9_lays_24 : decode cX9_lays 24 = .ok (.iastore, 1) := by decide +kernel
theorem dX9_lays_25 : decode cX9_lays 25 = .ok (.aload_n 0, 1) := by decide +kernel
theorem dX9_lays_26 : decode cX9_lays 26 = .ok (.getfield 20, 3) := by decide +kernel
theorem dX9_lays_29 : decode cX9_lays 29 = .ok (.bipush 20, 2) := by decide +kernel
theorem dX9_lays_31 : decode cX9_lays 31 = .ok (.iload_n 1, 1) := by decide +kernel
theorem dX9_lays_32 : decode cX9_lays 32 = .ok (.imul, 1) := by decide +kernel
theorem dX9_lays_33 : decode cX9_lays 33 = .ok (.iload_n 2, 1) := by decide +kernel
theorem dX9_lays_34 : decode cX9_lays 34 = .ok (.iadd, 1) := by decide +kernel
theorem dX9_lays_35 : decode cX9_lays 35 = .ok (.iload 5, 2) := by decide +kernel
theorem dX9_lays_37 : decode cX9_lays 37 = .ok (.iastore, 1) := by decide +kernel
theorem dX9_lays_38 : decode cX9_lays 38 = .ok (.return_, 1) := by decide +kernel
theorem dX9_lays_4 : decode cX9_lays 4 = .ok (.bipush 20, 2) := by decide +kernel
theorem dX9_lays_6 : decode cX9_lays 6 = .ok (.iload_n 1, 1) := by decide +kernel
theorem dX9_lays_7 : decode cX9_lays 7 = .ok (.imul, 1) := by decide +kernel
theorem dX9_lays_8 : decode cX9_lays 8 = .ok (.iload_n 2, 1) := by decide +kernel
theorem dX9_lays_9 : decode cX9_lays 9 = .ok (.iadd, 1) := by decide +kernel
theorem dX9_meets_0 : decode cX9_meets 0 = .ok (.aload_n 0, 1) := by decide +kernel
theorem dX9_meets_1 : decode cX9_meets 1 = .ok (.getfield 107, 3) := by decide +kernel
theorem dX9_meets_101 : decode cX9_meets 101 = .ok (.iload_n 3, 1) := by decide +kernel
theorem dX9_meets_102 : decode cX9_meets 102 = .ok (.ireturn, 1) := by decide +kernel
theorem dX9_meets_4 : decode cX9_meets 4 = .ok (.iload_n 2, 1) := by decide +kernel
theorem dX9_meets_5 : decode cX9_meets 5 = .ok (.if_icmp .ge 73, 3) := by decide +kernel
theorem dX9_meets_78 : decode cX9_meets 78 = .ok (.iload_n 3, 1) := by decide +kernel
theorem dX9_meets_79 : decode cX9_meets 79 = .ok (.ifCond .eq 22, 3) := by decide +kernel
theorem dX9_meets_82 : decode cX9_meets 82 = .ok (.aload_n 0, 1) := by decide +kernel
theorem dX9_meets_83 : decode cX9_meets 83 = .ok (.iload_n 1, 1) := by decide +kernel
theorem dX9_meets_84 : decode cX9_meets 84 = .ok (.iload 4, 2) := by decide +kernel
theorem dX9_meets_86 : decode cX9_meets 86 = .ok (.lload 5, 2) := by decide +kernel
theorem dX9_meets_88 : decode cX9_meets 88 = .ok (.invokevirtual 143, 3) := by decide +kernel
theorem dX9_meets_91 : decode cX9_meets 91 = .ok (.aload_n 0, 1) := by decide +kernel
theorem dX9_meets_92 : decode cX9_meets 92 = .ok (.dup, 1) := by decide +kernel
theorem dX9_meets_93 : decode cX9_meets 93 = .ok (.getfield 107, 3) := by decide +kernel
theorem dX9_meets_96 : decode cX9_meets 96 = .ok (.iconst 1, 1) := by decide +kernel
theorem dX9_meets_97 : decode cX9_meets 97 = .ok (.iadd, 1) := by decide +kernel
theorem dX9_meets_98 : decode cX9_meets 98 = .ok (.putfield 107, 3) := by decide +kernel
theorem dX9_needs_0 : decode cX9_needs 0 = .ok (.aload_n 0, 1) := by decide +kernel
theorem dX9_needs_1 : decode cX9_needs 1 = .ok (.iload_n 1, 1) := by decide +kernel
theorem dX9_needs_10 : decode cX9_needs 10 = .ok (.putfield 90, 3) := by decide +kernel
theorem dX9_needs_13 : decode cX9_needs 13 = .ok (.iload_n 1, 1) := by decide +kernel
theorem dX9_needs_14 : decode cX9_needs 14 = .ok (.ireturn, 1) := by decide +kernel
theorem dX9_needs_2 : decode cX9_needs 2 = .ok (.ifCond .eq 7, 3) := by decide +kernel
theorem dX9_needs_5 : decode cX9_needs 5 = .ok (.iconst 0, 1) := by decide +kernel
theorem dX9_needs_6 : decode cX9_needs 6 = .ok (.goto 4, 3) := by decide +kernel
theorem dX9_needs_9 : decode cX9_needs 9 = .ok (.iconst 1, 1) := by decide +kernel
theorem dX9_needs__0 : decode cX9_needs_ 0 = .ok (.aload_n 0, 1) := by decide +kernel
theorem dX9_needs__1 : decode cX9_needs_ 1 = .ok (.iload_n 1, 1) := by decide +kernel
theorem dX9_needs__10 : decode cX9_needs_ 10 = .ok (.ifCond .eq 7, 3) := by decide +kernel
theorem dX9_needs__13 : decode cX9_needs_ 13 = .ok (.iconst 0, 1) := by decide +kernel
theorem dX9_needs__14 : decode cX9_needs_ 14 = .ok (.goto 4, 3) := by decide +kernel
theorem dX9_needs__17 : decode cX9_needs_ 17 = .ok (.iconst 2, 1) := by decide +kernel
theorem dX9_needs__18 : decode cX9_needs_ 18 = .ok (.putfield 90, 3) := by decide +kernel
theorem dX9_needs__2 : decode cX9_needs_ 2 = .ok (.ifCond .ne 7, 3) := by decide +kernel
theorem dX9_needs__21 : decode cX9_needs_ 21 = .ok (.aload_n 0, 1) := by decide +kernel
theorem dX9_needs__22 : decode cX9_needs_ 22 = .ok (.getfield 90, 3) := by decide +kernel
theorem dX9_needs__25 : decode cX9_needs_ 25 = .ok (.ifCond .ne 7, 3) := by decide +kernel
theorem dX9_needs__28 : decode cX9_needs_ 28 = .ok (.iconst 1, 1) := by decide +kernel
theorem dX9_needs__29 : decode cX9_needs_ 29 = .ok (.goto 4, 3) := by decide +kernel
theorem dX9_needs__32 : decode cX9_needs_ 32 = .ok (.iconst 0, 1) := by decide +kernel
theorem dX9_needs__33 : decode cX9_needs_ 33 = .ok (.ireturn, 1) := by decide +kernel
theorem dX9_needs__5 : decode cX9_needs_ 5 = .ok (.iconst 1, 1) := by decide +kernel
theorem dX9_needs__6 : decode cX9_needs_ 6 = .ok (.goto 12, 3) := by decide +kernel
theorem dX9_needs__9 : decode cX9_needs_ 9 = .ok (.iload_n 2, 1) := by decide +kernel
theorem dX9_needs___0 : decode cX9_needs__ 0 = .ok (.aload_n 0, 1) := by decide +kernel
theorem dX9_needs___1 : decode cX9_needs__ 1 = .ok (.iload_n 1, 1) := by decide +kernel
theorem dX9_needs___10 : decode cX9_needs__ 10 = .ok (.ifCond .ne 7, 3) := by decide +kernel
theorem dX9_needs___13 : decode cX9_needs__ 13 = .ok (.iconst 2, 1) := by decide +kernel
theorem dX9_needs___14 : decode cX9_needs__ 14 = .ok (.goto 12, 3) := by decide +kernel
theorem dX9_needs___17 : decode cX9_needs__ 17 = .ok (.iload_n 3, 1) := by decide +kernel
theorem dX9_needs___18 : decode cX9_needs__ 18 = .ok (.ifCond .eq 7, 3) := by decide +kernel
theorem dX9_needs___2 : decode cX9_needs__ 2 = .ok (.ifCond .ne 7, 3) := by decide +kernel
theorem dX9_needs___21 : decode cX9_needs__ 21 = .ok (.iconst 0, 1) := by decide +kernel
theorem dX9_needs___22 : decode cX9_needs__ 22 = .ok (.goto 4, 3) := by decide +kernel
theorem dX9_needs___26 : decode cX9_needs__ 26 = .ok (.putfield 90, 3) := by decide +kernel
theorem dX9_needs___29 : decode cX9_needs__ 29 = .ok (.aload_n 0, 1) := by decide +kernel
theorem dX9_needs___30 : decode cX9_needs__ 30 = .ok (.getfield 90, 3) := by decide +kernel
theorem dX9_needs___33 : decode cX9_needs__ 33 = .ok (.ifCond .ne 7, 3) := by decide +kernel
theorem dX9_needs___36 : decode cX9_needs__ 36 = .ok (.iconst 1, 1) := by decide +kernel
theorem dX9_needs___37 : decode cX9_needs__ 37 = .ok (.goto 4, 3) := by decide +kernel
theorem dX9_needs___40 : decode cX9_needs__ 40 = .ok (.iconst 0, 1) := by decide +kernel
theorem dX9_needs___41 : decode cX9_needs__ 41 = .ok (.ireturn, 1) := by decide +kernel
theorem dX9_needs___5 : decode cX9_needs__ 5 = .ok (.iconst 1, 1) := by decide +kernel
theorem dX9_needs___6 : decode cX9_needs__ 6 = .ok (.goto 20, 3) := by decide +kernel
theorem dX9_needs___9 : decode cX9_needs__ 9 = .ok (.iload_n 2, 1) := by decide +kernel
theorem dX9_now_0 : decode cX9_now 0 = .ok (.aload_n 0, 1) := by decide +kernel
theorem dX9_now_1 : decode cX9_now 1 = .ok (.iconst 0, 1) := by decide +kernel
theorem dX9_now_2 : decode cX9_now 2 = .ok (.putfield 90, 3) := by decide +kernel
theorem dX9_now_5 : decode cX9_now 5 = .ok (.aload_n 0, 1) := by decide +kernel
theorem dX9_now_6 : decode cX9_now 6 = .ok (.getfield 197, 3) := by decide +kernel
theorem dX9_now_9 : decode cX9_now 9 = .ok (.ireturn, 1) := by decide +kernel
theorem dX9_number_0 : decode cX9_number 0 = .ok (.aload_n 0, 1) := by decide +kernel
theorem dX9_number_1 : decode cX9_number 1 = .ok (.aload_n 0, 1) := by decide +kernel
theorem dX9_number_10 : decode cX9_number 10 = .ok (.ifCond .eq 18, 3) := by decide +kernel
theorem dX9_number_2 : decode cX9_number 2 = .ok (.iload_n 1, 1) := by decide +kernel
theorem dX9_number_28 : decode cX9_number 28 = .ok (.lconst 0, 1) := by decide +kernel
theorem dX9_number_29 : decode cX9_number 29 = .ok (.lreturn, 1) := by decide +kernel
theorem dX9_number_3 : decode cX9_number 3 = .ok (.iload_n 2, 1) := by decide +kernel
theorem dX9_number_4 : decode cX9_number 4 = .ok (.invokevirtual 300, 3) := by decide +kernel
theorem dX9_number_7 : decode cX9_number 7 = .ok (.invokevirtual 269, 3) := by decide +kernel
theorem dX9_parent_0 : decode cX9_parent 0 = .ok (.aload_n 0, 1) := by decide +kernel
theorem dX9_parent_1 : decode cX9_parent 1 = .ok (.aload_n 0, 1) := by decide +kernel
theorem dX9_parent_2 : decode cX9_parent 2 = .ok (.iload_n 1, 1) := by decide +kernel
theorem dX9_parent_21 : decode cX9_parent 21 = .ok (.iconst 0, 1) := by decide +kernel
theorem dX9_parent_22 : decode cX9_parent 22 = .ok (.ireturn, 1) := by decide +kernel
theorem dX9_parent_3 : decode cX9_parent 3 = .ok (.invokevirtual 262, 3) := by decide +kernel
theorem dX9_parent_6 : decode cX9_parent 6 = .ok (.invokevirtual 269, 3) := by decide +kernel
theorem dX9_parent_9 : decode cX9_parent 9 = .ok (.ifCond .eq 12, 3) := by decide +kernel
theorem dX9_poll_0 : decode cX9_poll 0 = .ok (.aload_n 0, 1) := by decide +kernel
theorem dX9_poll_1 : decode cX9_poll 1 = .ok (.iconst 0, 1) := by decide +kernel
theorem dX9_poll_10 : decode cX9_poll 10 = .ok (.aload_n 0, 1) := by decide +kernel
theorem dX9_poll_11 : decode cX9_poll 11 = .ok (.getfield 100, 3) := by decide +kernel
theorem dX9_poll_14 : decode cX9_poll 14 = .ok (.if_icmp .ge 126, 3) := by decide +kernel
theorem dX9_poll_140 : decode cX9_poll 140 = .ok (.iload_n 1, 1) := by decide +kernel
theorem dX9_poll_141 : decode cX9_poll 141 = .ok (.iconst (-1), 1) := by decide +kernel
theorem dX9_poll_142 : decode cX9_poll 142 = .ok (.if_icmp .ne 5, 3) := by decide +kernel
theorem dX9_poll_145 : decode cX9_poll 145 = .ok (.iconst (-1), 1) := by decide +kernel
theorem dX9_poll_146 : decode cX9_poll 146 = .ok (.ireturn, 1) := by decide +kernel
theorem dX9_poll_2 : decode cX9_poll 2 = .ok (.putfield 90, 3) := by decide +kernel
theorem dX9_poll_5 : decode cX9_poll 5 = .ok (.iconst (-1), 1) := by decide +kernel
theorem dX9_poll_6 : decode cX9_poll 6 = .ok (.istore_n 1, 1) := by decide +kernel
theorem dX9_poll_7 : decode cX9_poll 7 = .ok (.iconst 0, 1) := by decide +kernel
theorem dX9_poll_8 : decode cX9_poll 8 = .ok (.istore_n 2, 1) := by decide +kernel
theorem dX9_poll_9 : decode cX9_poll 9 = .ok (.iload_n 2, 1) := by decide +kernel
theorem dX9_replays_0 : decode cX9_replays 0 = .ok (.aload_n 0, 1) := by decide +kernel
theorem dX9_replays_1 : decode cX9_replays 1 = .ok (.invokevirtual 175, 3) := by decide +kernel
theorem dX9_replays_10 : decode cX9_replays 10 = .ok (.aload_n 0, 1) := by decide +kernel
theorem dX9_replays_101 : decode cX9_replays 101 = .ok (.goto (-39), 3) := by decide +kernel
theorem dX9_replays_104 : decode cX9_replays 104 = .ok (.aload_n 0, 1) := by decide +kernel
theorem dX9_replays_105 : decode cX9_replays 105 = .ok (.getfield 116, 3) := by decide +kernel
theorem dX9_replays_108 : decode cX9_replays 108 = .ok (.ifCond .eq 31, 3) := by decide +kernel
theorem dX9_replays_11 : decode cX9_replays 11 = .ok (.getfield 44, 3) := by decide +kernel
theorem dX9_replays_139 : decode cX9_replays 139 = .ok (.aload_n 0, 1) := by decide +kernel
theorem dX9_replays_14 : decode cX9_replays 14 = .ok (.sipush 160, 3) := by decide +kernel
theorem dX9_replays_140 : decode cX9_replays 140 = .ok (.getfield 131, 3) := by decide +kernel
theorem dX9_replays_143 : decode cX9_replays 143 = .ok (.ifCond .le 15, 3) := by decide +kernel
theorem dX9_replays_158 : decode cX9_replays 158 = .ok (.aload_n 0, 1) := by decide +kernel
theorem dX9_replays_159 : decode cX9_replays 159 = .ok (.iload_n 1, 1) := by decide +kernel
theorem dX9_replays_160 : decode cX9_replays 160 = .ok (.iload_n 2, 1) := by decide +kernel
theorem dX9_replays_161 : decode cX9_replays 161 = .ok (.iload_n 3, 1) := by decide +kernel
theorem dX9_replays_162 : decode cX9_replays 162 = .ok (.invokevirtual 186, 3) := by decide +kernel
theorem dX9_replays_165 : decode cX9_replays 165 = .ok (.istore 4, 2) := by decide +kernel
theorem dX9_replays_167 : decode cX9_replays 167 = .ok (.aload_n 0, 1) := by decide +kernel
theorem dX9_replays_168 : decode cX9_replays 168 = .ok (.getfield 172, 3) := by decide +kernel
theorem dX9_replays_17 : decode cX9_replays 17 = .ok (.iload_n 1, 1) := by decide +kernel
theorem dX9_replays_171 : decode cX9_replays 171 = .ok (.iconst (-1), 1) := by decide +kernel
theorem dX9_replays_172 : decode cX9_replays 172 = .ok (.if_icmp .eq (-110), 3) := by decide +kernel
theorem dX9_replays_18 : decode cX9_replays 18 = .ok (.imul, 1) := by decide +kernel
theorem dX9_replays_180 : decode cX9_replays 180 = .ok (.iconst (-1), 1) := by decide +kernel
theorem dX9_replays_181 : decode cX9_replays 181 = .ok (.ireturn, 1) := by decide +kernel
theorem dX9_replays_19 : decode cX9_replays 19 = .ok (.iaload, 1) := by decide +kernel
theorem dX9_replays_20 : decode cX9_replays 20 = .ok (.ifCond .ne 7, 3) := by decide +kernel
theorem dX9_replays_23 : decode cX9_replays 23 = .ok (.iconst 1, 1) := by decide +kernel
theorem dX9_replays_24 : decode cX9_replays 24 = .ok (.goto 4, 3) := by decide +kernel
theorem dX9_replays_28 : decode cX9_replays 28 = .ok (.putfield 103, 3) := by decide +kernel
theorem dX9_replays_31 : decode cX9_replays 31 = .ok (.aload_n 0, 1) := by decide +kernel
theorem dX9_replays_32 : decode cX9_replays 32 = .ok (.aload_n 0, 1) := by decide +kernel
theorem dX9_replays_33 : decode cX9_replays 33 = .ok (.getfield 47, 3) := by decide +kernel
theorem dX9_replays_36 : decode cX9_replays 36 = .ok (.sipush 160, 3) := by decide +kernel
theorem dX9_replays_39 : decode cX9_replays 39 = .ok (.iload_n 1, 1) := by decide +kernel
theorem dX9_replays_4 : decode cX9_replays 4 = .ok (.aload_n 0, 1) := by decide +kernel
theorem dX9_replays_40 : decode cX9_replays 40 = .ok (.imul, 1) := by decide +kernel
theorem dX9_replays_41 : decode cX9_replays 41 = .ok (.laload, 1) := by decide +kernel
theorem dX9_replays_42 : decode cX9_replays 42 = .ok (.l2i, 1) := by decide +kernel
theorem dX9_replays_43 : decode cX9_replays 43 = .ok (.putfield 113, 3) := by decide +kernel
theorem dX9_replays_46 : decode cX9_replays 46 = .ok (.aload_n 0, 1) := by decide +kernel
theorem dX9_replays_47 : decode cX9_replays 47 = .ok (.iconst 1, 1) := by decide +kernel
theorem dX9_replays_48 : decode cX9_replays 48 = .ok (.putfield 107, 3) := by decide +kernel
theorem dX9_replays_5 : decode cX9_replays 5 = .ok (.iload_n 3, 1) := by decide +kernel
theorem dX9_replays_51 : decode cX9_replays 51 = .ok (.aload_n 0, 1) := by decide +kernel
theorem dX9_replays_52 : decode cX9_replays 52 = .ok (.iconst (-1), 1) := by decide +kernel
theorem dX9_replays_53 : decode cX9_replays 53 = .ok (.putfield 172, 3) := by decide +kernel
theorem dX9_replays_56 : decode cX9_replays 56 = .ok (.aload_n 0, 1) := by decide +kernel
theorem dX9_replays_57 : decode cX9_replays 57 = .ok (.getfield 103, 3) := by decide +kernel
theorem dX9_replays_6 : decode cX9_replays 6 = .ok (.putfield 156, 3) := by decide +kernel
theorem dX9_replays_60 : decode cX9_replays 60 = .ok (.istore 4, 2) := by decide +kernel
theorem dX9_replays_62 : decode cX9_replays 62 = .ok (.iload 4, 2) := by decide +kernel
theorem dX9_replays_64 : decode cX9_replays 64 = .ok (.ifCond .eq 116, 3) := by decide +kernel
theorem dX9_replays_67 : decode cX9_replays 67 = .ok (.aload_n 0, 1) := by decide +kernel
theorem dX9_replays_68 : decode cX9_replays 68 = .ok (.getfield 103, 3) := by decide +kernel
theorem dX9_replays_71 : decode cX9_replays 71 = .ok (.ifCond .eq 109, 3) := by decide +kernel
theorem dX9_replays_74 : decode cX9_replays 74 = .ok (.aload_n 0, 1) := by decide +kernel
theorem dX9_replays_75 : decode cX9_replays 75 = .ok (.getfield 134, 3) := by decide +kernel
theorem dX9_replays_78 : decode cX9_replays 78 = .ok (.ifCond .le 26, 3) := by decide +kernel
theorem dX9_replays_81 : decode cX9_replays 81 = .ok (.aload_n 0, 1) := by decide +kernel
theorem dX9_replays_82 : decode cX9_replays 82 = .ok (.aload_n 0, 1) := by decide +kernel
theorem dX9_replays_83 : decode cX9_replays 83 = .ok (.getfield 107, 3) := by decide +kernel
theorem dX9_replays_86 : decode cX9_replays 86 = .ok (.iload_n 2, 1) := by decide +kernel
theorem dX9_replays_87 : decode cX9_replays 87 = .ok (.if_icmp .lt 7, 3) := by decide +kernel
theorem dX9_replays_9 : decode cX9_replays 9 = .ok (.aload_n 0, 1) := by decide +kernel
theorem dX9_replays_90 : decode cX9_replays 90 = .ok (.iconst 1, 1) := by decide +kernel
theorem dX9_replays_91 : decode cX9_replays 91 = .ok (.goto 4, 3) := by decide +kernel
theorem dX9_replays_95 : decode cX9_replays 95 = .ok (.putfield 103, 3) := by decide +kernel
theorem dX9_replays_98 : decode cX9_replays 98 = .ok (.iconst 0, 1) := by decide +kernel
theorem dX9_replays_99 : decode cX9_replays 99 = .ok (.istore 4, 2) := by decide +kernel
theorem dX9_reset_0 : decode cX9_reset 0 = .ok (.aload_n 0, 1) := by decide +kernel
theorem dX9_reset_1 : decode cX9_reset 1 = .ok (.iload_n 1, 1) := by decide +kernel
theorem dX9_reset_2 : decode cX9_reset 2 = .ok (.invokevirtual 262, 3) := by decide +kernel
theorem dX9_reset_43 : decode cX9_reset 43 = .ok (.iconst 0, 1) := by decide +kernel
theorem dX9_reset_44 : decode cX9_reset 44 = .ok (.istore 4, 2) := by decide +kernel
theorem dX9_reset_46 : decode cX9_reset 46 = .ok (.aload_n 0, 1) := by decide +kernel
theorem dX9_reset_47 : decode cX9_reset 47 = .ok (.iload_n 3, 1) := by decide +kernel
theorem dX9_reset_48 : decode cX9_reset 48 = .ok (.iload 4, 2) := by decide +kernel
theorem dX9_reset_5 : decode cX9_reset 5 = .ok (.istore_n 3, 1) := by decide +kernel
theorem dX9_reset_50 : decode cX9_reset 50 = .ok (.iload 4, 2) := by decide +kernel
theorem dX9_reset_52 : decode cX9_reset 52 = .ok (.ifCond .eq 16, 3) := by decide +kernel
theorem dX9_reset_6 : decode cX9_reset 6 = .ok (.iload_n 3, 1) := by decide +kernel
theorem dX9_reset_68 : decode cX9_reset 68 = .ok (.iconst 0, 1) := by decide +kernel
theorem dX9_reset_69 : decode cX9_reset 69 = .ok (.invokevirtual 259, 3) := by decide +kernel
theorem dX9_reset_7 : decode cX9_reset 7 = .ok (.ifCond .eq 36, 3) := by decide +kernel
theorem dX9_reset_72 : decode cX9_reset 72 = .ok (.ifCond .ne 5, 3) := by decide +kernel
theorem dX9_reset_75 : decode cX9_reset 75 = .ok (.iconst 0, 1) := by decide +kernel
theorem dX9_reset_76 : decode cX9_reset 76 = .ok (.ireturn, 1) := by decide +kernel
theorem dX9_rests_0 : decode cX9_rests 0 = .ok (.aload_n 0, 1) := by decide +kernel
theorem dX9_rests_1 : decode cX9_rests 1 = .ok (.getfield 116, 3) := by decide +kernel
theorem dX9_rests_102 : decode cX9_rests 102 = .ok (.aload_n 0, 1) := by decide +kernel
theorem dX9_rests_103 : decode cX9_rests 103 = .ok (.getfield 134, 3) := by decide +kernel
theorem dX9_rests_106 : decode cX9_rests 106 = .ok (.ifCond .le 134, 3) := by decide +kernel
theorem dX9_rests_109 : decode cX9_rests 109 = .ok (.aload_n 0, 1) := by decide +kernel
theorem dX9_rests_110 : decode cX9_rests 110 = .ok (.getfield 32, 3) := by decide +kernel
theorem dX9_rests_113 : decode cX9_rests 113 = .ok (.iload_n 1, 1) := by decide +kernel
theorem dX9_rests_114 : decode cX9_rests 114 = .ok (.aload_n 0, 1) := by decide +kernel
theorem dX9_rests_115 : decode cX9_rests 115 = .ok (.getfield 134, 3) := by decide +kernel
theorem dX9_rests_118 : decode cX9_rests 118 = .ok (.iastore, 1) := by decide +kernel
theorem dX9_rests_119 : decode cX9_rests 119 = .ok (.ldc2_w 162, 3) := by decide +kernel
theorem dX9_rests_12 : decode cX9_rests 12 = .ok (.bipush 6, 2) := by decide +kernel
theorem dX9_rests_122 : decode cX9_rests 122 = .ok (.aload_n 0, 1) := by decide +kernel
theorem dX9_rests_123 : decode cX9_rests 123 = .ok (.getfield 113, 3) := by decide +kernel
theorem dX9_rests_126 : decode cX9_rests 126 = .ok (.i2l, 1) := by decide +kernel
theorem dX9_rests_127 : decode cX9_rests 127 = .ok (.lmul, 1) := by decide +kernel
theorem dX9_rests_128 : decode cX9_rests 128 = .ok (.aload_n 0, 1) := by decide +kernel
theorem dX9_rests_129 : decode cX9_rests 129 = .ok (.getfield 134, 3) := by decide +kernel
theorem dX9_rests_132 : decode cX9_rests 132 = .ok (.i2l, 1) := by decide +kernel
theorem dX9_rests_133 : decode cX9_rests 133 = .ok (.ladd, 1) := by decide +kernel
theorem dX9_rests_134 : decode cX9_rests 134 = .ok (.lstore_n 3, 1) := by decide +kernel
theorem dX9_rests_135 : decode cX9_rests 135 = .ok (.aload_n 0, 1) := by decide +kernel
theorem dX9_rests_136 : decode cX9_rests 136 = .ok (.getfield 26, 3) := by decide +kernel
theorem dX9_rests_139 : decode cX9_rests 139 = .ok (.iload_n 1, 1) := by decide +kernel
theorem dX9_rests_14 : decode cX9_rests 14 = .ok (.if_icmp .ne 7, 3) := by decide +kernel
theorem dX9_rests_140 : decode cX9_rests 140 = .ok (.iaload, 1) := by decide +kernel
theorem dX9_rests_141 : decode cX9_rests 141 = .ok (.istore 5, 2) := by decide +kernel
theorem dX9_rests_143 : decode cX9_rests 143 = .ok (.aload_n 0, 1) := by decide +kernel
theorem dX9_rests_144 : decode cX9_rests 144 = .ok (.getfield 134, 3) := by decide +kernel
theorem dX9_rests_147 : decode cX9_rests 147 = .ok (.iconst 4, 1) := by decide +kernel
theorem dX9_rests_148 : decode cX9_rests 148 = .ok (.if_icmp .eq 92, 3) := by decide +kernel
theorem dX9_rests_151 : decode cX9_rests 151 = .ok (.iload 5, 2) := by decide +kernel
theorem dX9_rests_153 : decode cX9_rests 153 = .ok (.iconst (-1), 1) := by decide +kernel
theorem dX9_rests_154 : decode cX9_rests 154 = .ok (.if_icmp .eq 86, 3) := by decide +kernel
theorem dX9_rests_21 : decode cX9_rests 21 = .ok (.iconst 0, 1) := by decide +kernel
theorem dX9_rests_22 : decode cX9_rests 22 = .ok (.istore_n 2, 1) := by decide +kernel
theorem dX9_rests_23 : decode cX9_rests 23 = .ok (.iconst 0, 1) := by decide +kernel
theorem dX9_rests_24 : decode cX9_rests 24 = .ok (.istore_n 3, 1) := by decide +kernel
theorem dX9_rests_240 : decode cX9_rests 240 = .ok (.return_, 1) := by decide +kernel
theorem dX9_rests_25 : decode cX9_rests 25 = .ok (.iload_n 3, 1) := by decide +kernel
theorem dX9_rests_26 : decode cX9_rests 26 = .ok (.aload_n 0, 1) := by decide +kernel
theorem dX9_rests_27 : decode cX9_rests 27 = .ok (.getfield 100, 3) := by decide +kernel
theorem dX9_rests_30 : decode cX9_rests 30 = .ok (.if_icmp .ge 48, 3) := by decide +kernel
theorem dX9_rests_4 : decode cX9_rests 4 = .ok (.iconst 1, 1) := by decide +kernel
theorem dX9_rests_5 : decode cX9_rests 5 = .ok (.if_icmp .eq 12, 3) := by decide +kernel
theorem dX9_rests_78 : decode cX9_rests 78 = .ok (.iload_n 2, 1) := by decide +kernel
theorem dX9_rests_79 : decode cX9_rests 79 = .ok (.ifCond .eq 23, 3) := by decide +kernel
theorem dX9_rests_8 : decode cX9_rests 8 = .ok (.aload_n 0, 1) := by decide +kernel
theorem dX9_rests_9 : decode cX9_rests 9 = .ok (.getfield 116, 3) := by decide +kernel
theorem dX9_runs_0 : decode cX9_runs 0 = .ok (.aload_n 0, 1) := by decide +kernel
theorem dX9_runs_1 : decode cX9_runs 1 = .ok (.iconst 0, 1) := by decide +kernel
theorem dX9_runs_10 : decode cX9_runs 10 = .ok (.aload_n 0, 1) := by decide +kernel
theorem dX9_runs_11 : decode cX9_runs 11 = .ok (.iload_n 1, 1) := by decide +kernel
theorem dX9_runs_12 : decode cX9_runs 12 = .ok (.invokevirtual 229, 3) := by decide +kernel
theorem dX9_runs_15 : decode cX9_runs 15 = .ok (.iconst 0, 1) := by decide +kernel
theorem dX9_runs_16 : decode cX9_runs 16 = .ok (.istore_n 2, 1) := by decide +kernel
theorem dX9_runs_17 : decode cX9_runs 17 = .ok (.iconst 0, 1) := by decide +kernel
theorem dX9_runs_18 : decode cX9_runs 18 = .ok (.istore_n 3, 1) := by decide +kernel
theorem dX9_runs_19 : decode cX9_runs 19 = .ok (.iload_n 2, 1) := by decide +kernel
theorem dX9_runs_2 : decode cX9_runs 2 = .ok (.putfield 226, 3) := by decide +kernel
theorem dX9_runs_20 : decode cX9_runs 20 = .ok (.aload_n 0, 1) := by decide +kernel
theorem dX9_runs_21 : decode cX9_runs 21 = .ok (.getfield 226, 3) := by decide +kernel
theorem dX9_runs_24 : decode cX9_runs 24 = .ok (.if_icmp .lt 11, 3) := by decide +kernel
theorem dX9_runs_27 : decode cX9_runs 27 = .ok (.iload_n 3, 1) := by decide +kernel
theorem dX9_runs_28 : decode cX9_runs 28 = .ok (.aload_n 0, 1) := by decide +kernel
theorem dX9_runs_29 : decode cX9_runs 29 = .ok (.getfield 159, 3) := by decide +kernel
theorem dX9_runs_32 : decode cX9_runs 32 = .ok (.if_icmp .ge 58, 3) := by decide +kernel
theorem dX9_runs_5 : decode cX9_runs 5 = .ok (.aload_n 0, 1) := by decide +kernel
theorem dX9_runs_6 : decode cX9_runs 6 = .ok (.iconst 0, 1) := by decide +kernel
theorem dX9_runs_7 : decode cX9_runs 7 = .ok (.putfield 159, 3) := by decide +kernel
theorem dX9_runs_90 : decode cX9_runs 90 = .ok (.return_, 1) := by decide +kernel
theorem dX9_set_0 : decode cX9_set 0 = .ok (.aload_n 0, 1) := by decide +kernel
theorem dX9_set_1 : decode cX9_set 1 = .ok (.iload_n 1, 1) := by decide +kernel
theorem dX9_set_11 : decode cX9_set 11 = .ok (.invokestatic 242, 3) := by decide +kernel
theorem dX9_set_14 : decode cX9_set 14 = .ok (.invokevirtual 245, 3) := by decide +kernel
theorem dX9_set_17 : decode cX9_set 17 = .ok (.ifCond .ne 5, 3) := by decide +kernel
theorem dX9_set_2 : decode cX9_set 2 = .ok (.iload_n 2, 1) := by decide +kernel
theorem dX9_set_20 : decode cX9_set 20 = .ok (.iconst 0, 1) := by decide +kernel
theorem dX9_set_21 : decode cX9_set 21 = .ok (.ireturn, 1) := by decide +kernel
theorem dX9_set_22 : decode cX9_set 22 = .ok (.aload_n 0, 1) := by decide +kernel
theorem dX9_set_23 : decode cX9_set 23 = .ok (.iload_n 1, 1) := by decide +kernel
theorem dX9_set_24 : decode cX9_set 24 = .ok (.iload_n 2, 1) := by decide +kernel
theorem dX9_set_25 : decode cX9_set 25 = .ok (.iload_n 3, 1) := by decide +kernel
theorem dX9_set_26 : decode cX9_set 26 = .ok (.iload 4, 2) := by decide +kernel
theorem dX9_set_28 : decode cX9_set 28 = .ok (.iload 5, 2) := by decide +kernel
theorem dX9_set_3 : decode cX9_set 3 = .ok (.invokestatic 238, 3) := by decide +kernel
theorem dX9_set_30 : decode cX9_set 30 = .ok (.invokevirtual 249, 3) := by decide +kernel
theorem dX9_set_33 : decode cX9_set 33 = .ok (.iconst 0, 1) := by decide +kernel
theorem dX9_set_34 : decode cX9_set 34 = .ok (.istore 6, 2) := by decide +kernel
theorem dX9_set_36 : decode cX9_set 36 = .ok (.iload 6, 2) := by decide +kernel
theorem dX9_set_38 : decode cX9_set 38 = .ok (.aload_n 0, 1) := by decide +kernel
theorem dX9_set_39 : decode cX9_set 39 = .ok (.getfield 93, 3) := by decide +kernel
theorem dX9_set_42 : decode cX9_set 42 = .ok (.if_icmp .ge 45, 3) := by decide +kernel
theorem dX9_set_6 : decode cX9_set 6 = .ok (.iload_n 3, 1) := by decide +kernel
theorem dX9_set_7 : decode cX9_set 7 = .ok (.iload 4, 2) := by decide +kernel
theorem dX9_set_87 : decode cX9_set 87 = .ok (.aload_n 0, 1) := by decide +kernel
theorem dX9_set_88 : decode cX9_set 88 = .ok (.iload_n 1, 1) := by decide +kernel
theorem dX9_set_89 : decode cX9_set 89 = .ok (.invokevirtual 256, 3) := by decide +kernel
theorem dX9_set_9 : decode cX9_set 9 = .ok (.iload 5, 2) := by decide +kernel
theorem dX9_set_92 : decode cX9_set 92 = .ok (.ireturn, 1) := by decide +kernel
theorem dX9_signal_0 : decode cX9_signal 0 = .ok (.aload_n 0, 1) := by decide +kernel
theorem dX9_signal_1 : decode cX9_signal 1 = .ok (.aload_n 0, 1) := by decide +kernel
theorem dX9_signal_10 : decode cX9_signal 10 = .ok (.invokestatic 96, 3) := by decide +kernel
theorem dX9_signal_13 : decode cX9_signal 13 = .ok (.ifCond .eq 17, 3) := by decide +kernel
theorem dX9_signal_16 : decode cX9_signal 16 = .ok (.iload_n 3, 1) := by decide +kernel
theorem dX9_signal_17 : decode cX9_signal 17 = .ok (.iconst 0, 1) := by decide +kernel
theorem dX9_signal_18 : decode cX9_signal 18 = .ok (.bipush 99, 2) := by decide +kernel
theorem dX9_signal_2 : decode cX9_signal 2 = .ok (.iload_n 1, 1) := by decide +kernel
theorem dX9_signal_20 : decode cX9_signal 20 = .ok (.invokestatic 96, 3) := by decide +kernel
theorem dX9_signal_23 : decode cX9_signal 23 = .ok (.ifCond .eq 7, 3) := by decide +kernel
theorem dX9_signal_26 : decode cX9_signal 26 = .ok (.iconst 1, 1) := by decide +kernel
theorem dX9_signal_27 : decode cX9_signal 27 = .ok (.goto 4, 3) := by decide +kernel
theorem dX9_signal_3 : decode cX9_signal 3 = .ok (.invokevirtual 262, 3) := by decide +kernel
theorem dX9_signal_30 : decode cX9_signal 30 = .ok (.iconst 0, 1) := by decide +kernel
theorem dX9_signal_31 : decode cX9_signal 31 = .ok (.invokevirtual 245, 3) := by decide +kernel
theorem dX9_signal_34 : decode cX9_signal 34 = .ok (.ifCond .eq 26, 3) := by decide +kernel
theorem dX9_signal_6 : decode cX9_signal 6 = .ok (.iload_n 2, 1) := by decide +kernel
theorem dX9_signal_60 : decode cX9_signal 60 = .ok (.iconst 0, 1) := by decide +kernel
theorem dX9_signal_61 : decode cX9_signal 61 = .ok (.ireturn, 1) := by decide +kernel
theorem dX9_signal_7 : decode cX9_signal 7 = .ok (.iconst 0, 1) := by decide +kernel
theorem dX9_signal_8 : decode cX9_signal 8 = .ok (.bipush 99, 2) := by decide +kernel
theorem dX9_start_0 : decode cX9_start 0 = .ok (.aload_n 0, 1) := by decide +kernel
theorem dX9_start_1 : decode cX9_start 1 = .ok (.iload_n 1, 1) := by decide +kernel
theorem dX9_start_11 : decode cX9_start 11 = .ok (.sipush 999, 3) := by decide +kernel
theorem dX9_start_14 : decode cX9_start 14 = .ok (.invokestatic 96, 3) := by decide +kernel
theorem dX9_start_17 : decode cX9_start 17 = .ok (.aload_n 0, 1) := by decide +kernel
theorem dX9_start_18 : decode cX9_start 18 = .ok (.getfield 93, 3) := by decide +kernel
theorem dX9_start_2 : decode cX9_start 2 = .ok (.iconst 0, 1) := by decide +kernel
theorem dX9_start_21 : decode cX9_start 21 = .ok (.bipush 40, 2) := by decide +kernel
theorem dX9_start_23 : decode cX9_start 23 = .ok (.if_icmp .ge 7, 3) := by decide +kernel
theorem dX9_start_26 : decode cX9_start 26 = .ok (.iconst 1, 1) := by decide +kernel
theorem dX9_start_27 : decode cX9_start 27 = .ok (.goto 4, 3) := by decide +kernel
theorem dX9_start_3 : decode cX9_start 3 = .ok (.iconst 5, 1) := by decide +kernel
theorem dX9_start_31 : decode cX9_start 31 = .ok (.invokevirtual 259, 3) := by decide +kernel
theorem dX9_start_34 : decode cX9_start 34 = .ok (.ifCond .ne 5, 3) := by decide +kernel
theorem dX9_start_37 : decode cX9_start 37 = .ok (.iconst 0, 1) := by decide +kernel
theorem dX9_start_38 : decode cX9_start 38 = .ok (.ireturn, 1) := by decide +kernel
theorem dX9_start_39 : decode cX9_start 39 = .ok (.aload_n 0, 1) := by decide +kernel
theorem dX9_start_4 : decode cX9_start 4 = .ok (.invokestatic 96, 3) := by decide +kernel
theorem dX9_start_40 : decode cX9_start 40 = .ok (.iload_n 1, 1) := by decide +kernel
theorem dX9_start_41 : decode cX9_start 41 = .ok (.iload_n 2, 1) := by decide +kernel
theorem dX9_start_42 : decode cX9_start 42 = .ok (.iconst (-1), 1) := by decide +kernel
theorem dX9_start_43 : decode cX9_start 43 = .ok (.iconst (-1), 1) := by decide +kernel
theorem dX9_start_44 : decode cX9_start 44 = .ok (.invokevirtual 168, 3) := by decide +kernel
theorem dX9_start_47 : decode cX9_start 47 = .ok (.istore_n 3, 1) := by decide +kernel
theorem dX9_start_48 : decode cX9_start 48 = .ok (.aload_n 0, 1) := by decide +kernel
theorem dX9_start_49 : decode cX9_start 49 = .ok (.iload_n 3, 1) := by decide +kernel
theorem dX9_start_50 : decode cX9_start 50 = .ok (.invokevirtual 253, 3) := by decide +kernel
theorem dX9_start_53 : decode cX9_start 53 = .ok (.iload_n 3, 1) := by decide +kernel
theorem dX9_start_54 : decode cX9_start 54 = .ok (.ireturn, 1) := by decide +kernel
theorem dX9_start_7 : decode cX9_start 7 = .ok (.iload_n 2, 1) := by decide +kernel
theorem dX9_start_8 : decode cX9_start 8 = .ok (.sipush (-999), 3) := by decide +kernel
theorem dX9_state_0 : decode cX9_state 0 = .ok (.aload_n 0, 1) := by decide +kernel
theorem dX9_state_1 : decode cX9_state 1 = .ok (.aload_n 0, 1) := by decide +kernel
theorem dX9_state_12 : decode cX9_state 12 = .ok (.iconst 0, 1) := by decide +kernel
theorem dX9_state_13 : decode cX9_state 13 = .ok (.ireturn, 1) := by decide +kernel
theorem dX9_state_2 : decode cX9_state 2 = .ok (.iload_n 1, 1) := by decide +kernel
theorem dX9_state_3 : decode cX9_state 3 = .ok (.invokevirtual 262, 3) := by decide +kernel
theorem dX9_state_6 : decode cX9_state 6 = .ok (.invokevirtual 269, 3) := by decide +kernel
theorem dX9_state_9 : decode cX9_state 9 = .ok (.ifCond .ne 5, 3) := by decide +kernel
theorem dX9_steps_0 : decode cX9_steps 0 = .ok (.aload_n 0, 1) := by decide +kernel
theorem dX9_steps_1 : decode cX9_steps 1 = .ok (.getfield 137, 3) := by decide +kernel
theorem dX9_steps_100 : decode cX9_steps 100 = .ok (.iload 5, 2) := by decide +kernel
theorem dX9_steps_102 : decode cX9_steps 102 = .ok (.iconst 4, 1) := by decide +kernel
theorem dX9_steps_103 : decode cX9_steps 103 = .ok (.if_icmp .ne 12, 3) := by decide +kernel
theorem dX9_steps_1085 : decode cX9_steps 1085 = .ok (.iload 10, 2) := by decide +kernel
theorem dX9_steps_1087 : decode cX9_steps 1087 = .ok (.ifCond .ne 26, 3) := by decide +kernel
theorem dX9_steps_1113 : decode cX9_steps 1113 = .ok (.iload 10, 2) := by decide +kernel
theorem dX9_steps_1115 : decode cX9_steps 1115 = .ok (.ireturn, 1) := by decide +kernel
theorem dX9_steps_115 : decode cX9_steps 115 = .ok (.iconst (-1), 1) := by decide +kernel
theorem dX9_steps_116 : decode cX9_steps 116 = .ok (.istore 9, 2) := by decide +kernel
theorem dX9_steps_118 : decode cX9_steps 118 = .ok (.iload 5, 2) := by decide +kernel
theorem dX9_steps_120 : decode cX9_steps 120 = .ok (.invokestatic 193, 3) := by decide +kernel
theorem dX9_steps_123 : decode cX9_steps 123 = .ok (.ifCond .eq 18, 3) := by decide +kernel
theorem dX9_steps_141 : decode cX9_steps 141 = .ok (.iload 5, 2) := by decide +kernel
theorem dX9_steps_143 : decode cX9_steps 143 = .ok (.bipush 12, 2) := by decide +kernel
theorem dX9_steps_145 : decode cX9_steps 145 = .ok (.if_icmp .ne 19, 3) := by decide +kernel
theorem dX9_steps_16 : decode cX9_steps 16 = .ok (.bipush 20, 2) := by decide +kernel
theorem dX9_steps_164 : decode cX9_steps 164 = .ok (.iconst 1, 1) := by decide +kernel
theorem dX9_steps_165 : decode cX9_steps 165 = .ok (.istore 10, 2) := by decide +kernel
theorem dX9_steps_167 : decode cX9_steps 167 = .ok (.iload 5, 2) := by decide +kernel
theorem dX9_steps_169 : decode cX9_steps 169 = .ok (.tableswitch 842 0 16 #[83, 123, 169, 242, 289, 391, 417, 429, 443, 457, 548, 628, 642, 666, 674, 802, 810], 83) := by decide +kernel
theorem dX9_steps_18 : decode cX9_steps 18 = .ok (.aload_n 0, 1) := by decide +kernel
theorem dX9_steps_19 : decode cX9_steps 19 = .ok (.getfield 23, 3) := by decide +kernel
theorem dX9_steps_22 : decode cX9_steps 22 = .ok (.iload_n 1, 1) := by decide +kernel
theorem dX9_steps_23 : decode cX9_steps 23 = .ok (.iaload, 1) := by decide +kernel
theorem dX9_steps_24 : decode cX9_steps 24 = .ok (.imul, 1) := by decide +kernel
theorem dX9_steps_25 : decode cX9_steps 25 = .ok (.aload_n 0, 1) := by decide +kernel
theorem dX9_steps_252 : decode cX9_steps 252 = .ok (.aload_n 0, 1) := by decide +kernel
theorem dX9_steps_253 : decode cX9_steps 253 = .ok (.iload_n 1, 1) := by decide +kernel
theorem dX9_steps_254 : decode cX9_steps 254 = .ok (.iload_n 2, 1) := by decide +kernel
theorem dX9_steps_255 : decode cX9_steps 255 = .ok (.iload_n 3, 1) := by decide +kernel
theorem dX9_steps_256 : decode cX9_steps 256 = .ok (.bipush 13, 2) := by decide +kernel
theorem dX9_steps_258 : decode cX9_steps 258 = .ok (.ldc2_w 162, 3) := by decide +kernel
theorem dX9_steps_26 : decode cX9_steps 26 = .ok (.getfield 110, 3) := by decide +kernel
theorem dX9_steps_261 : decode cX9_steps 261 = .ok (.aload_n 0, 1) := by decide +kernel
theorem dX9_steps_262 : decode cX9_steps 262 = .ok (.getfield 113, 3) := by decide +kernel
theorem dX9_steps_265 : decode cX9_steps 265 = .ok (.i2l, 1) := by decide +kernel
theorem dX9_steps_266 : decode cX9_steps 266 = .ok (.lmul, 1) := by decide +kernel
theorem dX9_steps_267 : decode cX9_steps 267 = .ok (.lconst 1, 1) := by decide +kernel
theorem dX9_steps_268 : decode cX9_steps 268 = .ok (.ladd, 1) := by decide +kernel
theorem dX9_steps_269 : decode cX9_steps 269 = .ok (.iconst 0, 1) := by decide +kernel
theorem dX9_steps_270 : decode cX9_steps 270 = .ok (.invokevirtual 164, 3) := by decide +kernel
theorem dX9_steps_273 : decode cX9_steps 273 = .ok (.istore 10, 2) := by decide +kernel
theorem dX9_steps_275 : decode cX9_steps 275 = .ok (.aload_n 0, 1) := by decide +kernel
theorem dX9_steps_276 : decode cX9_steps 276 = .ok (.iload 10, 2) := by decide +kernel
theorem dX9_steps_278 : decode cX9_steps 278 = .ok (.ifCond .eq 7, 3) := by decide +kernel
theorem dX9_steps_281 : decode cX9_steps 281 = .ok (.iconst 1, 1) := by decide +kernel
theorem dX9_steps_282 : decode cX9_steps 282 = .ok (.goto 4, 3) := by decide +kernel
theorem dX9_steps_286 : decode cX9_steps 286 = .ok (.putfield 134, 3) := by decide +kernel
theorem dX9_steps_289 : decode cX9_steps 289 = .ok (.goto 796, 3) := by decide +kernel
theorem dX9_steps_29 : decode cX9_steps 29 = .ok (.iadd, 1) := by decide +kernel
theorem dX9_steps_30 : decode cX9_steps 30 = .ok (.istore 4, 2) := by decide +kernel
theorem dX9_steps_32 : decode cX9_steps 32 = .ok (.aload_n 0, 1) := by decide +kernel
theorem dX9_steps_33 : decode cX9_steps 33 = .ok (.getfield 13, 3) := by decide +kernel
theorem dX9_steps_36 : decode cX9_steps 36 = .ok (.iload 4, 2) := by decide +kernel
theorem dX9_steps_38 : decode cX9_steps 38 = .ok (.iaload, 1) := by decide +kernel
theorem dX9_steps_39 : decode cX9_steps 39 = .ok (.istore 5, 2) := by decide +kernel
theorem dX9_steps_4 : decode cX9_steps 4 = .ok (.bipush 60, 2) := by decide +kernel
theorem dX9_steps_41 : decode cX9_steps 41 = .ok (.aload_n 0, 1) := by decide +kernel
theorem dX9_steps_42 : decode cX9_steps 42 = .ok (.getfield 17, 3) := by decide +kernel
theorem dX9_steps_45 : decode cX9_steps 45 = .ok (.iload 4, 2) := by decide +kernel
theorem dX9_steps_47 : decode cX9_steps 47 = .ok (.iaload, 1) := by decide +kernel
theorem dX9_steps_48 : decode cX9_steps 48 = .ok (.istore 6, 2) := by decide +kernel
theorem dX9_steps_50 : decode cX9_steps 50 = .ok (.aload_n 0, 1) := by decide +kernel
theorem dX9_steps_51 : decode cX9_steps 51 = .ok (.getfield 107, 3) := by decide +kernel
theorem dX9_steps_54 : decode cX9_steps 54 = .ok (.iload_n 2, 1) := by decide +kernel
theorem dX9_steps_55 : decode cX9_steps 55 = .ok (.if_icmp .lt 7, 3) := by decide +kernel
theorem dX9_steps_58 : decode cX9_steps 58 = .ok (.iconst 1, 1) := by decide +kernel
theorem dX9_steps_59 : decode cX9_steps 59 = .ok (.goto 4, 3) := by decide +kernel
theorem dX9_steps_6 : decode cX9_steps 6 = .ok (.if_icmp .ne 10, 3) := by decide +kernel
theorem dX9_steps_63 : decode cX9_steps 63 = .ok (.istore 7, 2) := by decide +kernel
theorem dX9_steps_65 : decode cX9_steps 65 = .ok (.aload_n 0, 1) := by decide +kernel
theorem dX9_steps_66 : decode cX9_steps 66 = .ok (.getfield 110, 3) := by decide +kernel
theorem dX9_steps_69 : decode cX9_steps 69 = .ok (.istore 8, 2) := by decide +kernel
theorem dX9_steps_71 : decode cX9_steps 71 = .ok (.aload_n 0, 1) := by decide +kernel
theorem dX9_steps_72 : decode cX9_steps 72 = .ok (.dup, 1) := by decide +kernel
theorem dX9_steps_73 : decode cX9_steps 73 = .ok (.getfield 137, 3) := by decide +kernel
theorem dX9_steps_76 : decode cX9_steps 76 = .ok (.iconst 1, 1) := by decide +kernel
theorem dX9_steps_77 : decode cX9_steps 77 = .ok (.iadd, 1) := by decide +kernel
theorem dX9_steps_78 : decode cX9_steps 78 = .ok (.putfield 137, 3) := by decide +kernel
theorem dX9_steps_81 : decode cX9_steps 81 = .ok (.aload_n 0, 1) := by decide +kernel
theorem dX9_steps_82 : decode cX9_steps 82 = .ok (.aload_n 0, 1) := by decide +kernel
theorem dX9_steps_83 : decode cX9_steps 83 = .ok (.getfield 110, 3) := by decide +kernel
theorem dX9_steps_86 : decode cX9_steps 86 = .ok (.iconst 1, 1) := by decide +kernel
theorem dX9_steps_87 : decode cX9_steps 87 = .ok (.iadd, 1) := by decide +kernel
theorem dX9_steps_88 : decode cX9_steps 88 = .ok (.bipush 20, 2) := by decide +kernel
theorem dX9_steps_90 : decode cX9_steps 90 = .ok (.irem, 1) := by decide +kernel
theorem dX9_steps_91 : decode cX9_steps 91 = .ok (.putfield 110, 3) := by decide +kernel
theorem dX9_steps_94 : decode cX9_steps 94 = .ok (.iload 5, 2) := by decide +kernel
theorem dX9_steps_96 : decode cX9_steps 96 = .ok (.iconst 3, 1) := by decide +kernel
theorem dX9_steps_97 : decode cX9_steps 97 = .ok (.if_icmp .eq 9, 3) := by decide +kernel
theorem dX9_taskOf_0 : decode cX9_taskOf 0 = .ok (.iconst 0, 1) := by decide +kernel
theorem dX9_taskOf_1 : decode cX9_taskOf 1 = .ok (.istore_n 2, 1) := by decide +kernel
theorem dX9_taskOf_2 : decode cX9_taskOf 2 = .ok (.iload_n 2, 1) := by decide +kernel
theorem dX9_taskOf_3 : decode cX9_taskOf 3 = .ok (.aload_n 0, 1) := by decide +kernel
theorem dX9_taskOf_4 : decode cX9_taskOf 4 = .ok (.getfield 100, 3) := by decide +kernel
theorem dX9_taskOf_55 : decode cX9_taskOf 55 = .ok (.iconst (-1), 1) := by decide +kernel
theorem dX9_taskOf_56 : decode cX9_taskOf 56 = .ok (.ireturn, 1) := by decide +kernel
theorem dX9_taskOf_7 : decode cX9_taskOf 7 = .ok (.if_icmp .ge 48, 3) := by decide +kernel
theorem dX9_task_0 : decode cX9_task 0 = .ok (.aload_n 0, 1) := by decide +kernel
theorem dX9_task_1 : decode cX9_task 1 = .ok (.iload_n 1, 1) := by decide +kernel
theorem dX9_task_12 : decode cX9_task 12 = .ok (.iload_n 2, 1) := by decide +kernel
theorem dX9_task_13 : decode cX9_task 13 = .ok (.iconst 0, 1) := by decide +kernel
theorem dX9_task_14 : decode cX9_task 14 = .ok (.iconst 5, 1) := by decide +kernel
theorem dX9_task_15 : decode cX9_task 15 = .ok (.invokestatic 96, 3) := by decide +kernel
theorem dX9_task_18 : decode cX9_task 18 = .ok (.invokevirtual 245, 3) := by decide +kernel
theorem dX9_task_2 : decode cX9_task 2 = .ok (.iconst 0, 1) := by decide +kernel
theorem dX9_task_21 : decode cX9_task 21 = .ok (.ifCond .ne 5, 3) := by decide +kernel
theorem dX9_task_24 : decode cX9_task 24 = .ok (.iconst 0, 1) := by decide +kernel
theorem dX9_task_25 : decode cX9_task 25 = .ok (.ireturn, 1) := by decide +kernel
theorem dX9_task_3 : decode cX9_task 3 = .ok (.aload_n 0, 1) := by decide +kernel
theorem dX9_task_4 : decode cX9_task 4 = .ok (.getfield 100, 3) := by decide +kernel
theorem dX9_task_7 : decode cX9_task 7 = .ok (.iconst 1, 1) := by decide +kernel
theorem dX9_task_8 : decode cX9_task 8 = .ok (.isub, 1) := by decide +kernel
theorem dX9_task_9 : decode cX9_task 9 = .ok (.invokestatic 96, 3) := by decide +kernel
theorem dX9_tasks_0 : decode cX9_tasks 0 = .ok (.aload_n 0, 1) := by decide +kernel
theorem dX9_tasks_1 : decode cX9_tasks 1 = .ok (.iconst 0, 1) := by decide +kernel
theorem dX9_tasks_2 : decode cX9_tasks 2 = .ok (.putfield 90, 3) := by decide +kernel
theorem dX9_tasks_5 : decode cX9_tasks 5 = .ok (.aload_n 0, 1) := by decide +kernel
theorem dX9_tasks_6 : decode cX9_tasks 6 = .ok (.getfield 100, 3) := by decide +kernel
theorem dX9_tasks_9 : decode cX9_tasks 9 = .ok (.ireturn, 1) := by decide +kernel
theorem dX9_thrown_0 : decode cX9_thrown 0 = .ok (.aload_n 0, 1) := by decide +kernel
theorem dX9_thrown_1 : decode cX9_thrown 1 = .ok (.getfield 90, 3) := by decide +kernel
theorem dX9_thrown_4 : decode cX9_thrown 4 = .ok (.ireturn, 1) := by decide +kernel
theorem dX9_tick_0 : decode cX9_tick 0 = .ok (.aload_n 0, 1) := by decide +kernel
theorem dX9_tick_1 : decode cX9_tick 1 = .ok (.iload_n 1, 1) := by decide +kernel
theorem dX9_tick_11 : decode cX9_tick 11 = .ok (.ifCond .ne 5, 3) := by decide +kernel
theorem dX9_tick_14 : decode cX9_tick 14 = .ok (.iconst 0, 1) := by decide +kernel
theorem dX9_tick_15 : decode cX9_tick 15 = .ok (.ireturn, 1) := by decide +kernel
theorem dX9_tick_16 : decode cX9_tick 16 = .ok (.iconst 0, 1) := by decide +kernel
theorem dX9_tick_17 : decode cX9_tick 17 = .ok (.istore_n 2, 1) := by decide +kernel
theorem dX9_tick_18 : decode cX9_tick 18 = .ok (.iload_n 2, 1) := by decide +kernel
theorem dX9_tick_19 : decode cX9_tick 19 = .ok (.iload_n 1, 1) := by decide +kernel
theorem dX9_tick_2 : decode cX9_tick 2 = .ok (.iconst 1, 1) := by decide +kernel
theorem dX9_tick_20 : decode cX9_tick 20 = .ok (.if_icmp .ge 13, 3) := by decide +kernel
theorem dX9_tick_23 : decode cX9_tick 23 = .ok (.aload_n 0, 1) := by decide +kernel
theorem dX9_tick_24 : decode cX9_tick 24 = .ok (.invokevirtual 294, 3) := by decide +kernel
theorem dX9_tick_27 : decode cX9_tick 27 = .ok (.iinc 2 1, 3) := by decide +kernel
theorem dX9_tick_3 : decode cX9_tick 3 = .ok (.bipush 50, 2) := by decide +kernel
theorem dX9_tick_30 : decode cX9_tick 30 = .ok (.goto (-12), 3) := by decide +kernel
theorem dX9_tick_33 : decode cX9_tick 33 = .ok (.aload_n 0, 1) := by decide +kernel
theorem dX9_tick_34 : decode cX9_tick 34 = .ok (.getfield 197, 3) := by decide +kernel
theorem dX9_tick_37 : decode cX9_tick 37 = .ok (.ireturn, 1) := by decide +kernel
theorem dX9_tick_5 : decode cX9_tick 5 = .ok (.invokestatic 96, 3) := by decide +kernel
theorem dX9_tick_8 : decode cX9_tick 8 = .ok (.invokevirtual 269, 3) := by decide +kernel
theorem dX9_ticks_0 : decode cX9_ticks 0 = .ok (.aload_n 0, 1) := by decide +kernel
theorem dX9_ticks_1 : decode cX9_ticks 1 = .ok (.dup, 1) := by decide +kernel
theorem dX9_ticks_10 : decode cX9_ticks 10 = .ok (.iconst 0, 1) := by decide +kernel
theorem dX9_ticks_104 : decode cX9_ticks 104 = .ok (.iconst 0, 1) := by decide +kernel
theorem dX9_ticks_105 : decode cX9_ticks 105 = .ok (.istore_n 1, 1) := by decide +kernel
theorem dX9_ticks_106 : decode cX9_ticks 106 = .ok (.iload_n 1, 1) := by decide +kernel
theorem dX9_ticks_107 : decode cX9_ticks 107 = .ok (.aload_n 0, 1) := by decide +kernel
theorem dX9_ticks_108 : decode cX9_ticks 108 = .ok (.getfield 93, 3) := by decide +kernel
theorem dX9_ticks_11 : decode cX9_ticks 11 = .ok (.istore_n 1, 1) := by decide +kernel
theorem dX9_ticks_111 : decode cX9_ticks 111 = .ok (.if_icmp .ge 65, 3) := by decide +kernel
theorem dX9_ticks_12 : decode cX9_ticks 12 = .ok (.iload_n 1, 1) := by decide +kernel
theorem dX9_ticks_13 : decode cX9_ticks 13 = .ok (.aload_n 0, 1) := by decide +kernel
theorem dX9_ticks_14 : decode cX9_ticks 14 = .ok (.getfield 100, 3) := by decide +kernel
theorem dX9_ticks_17 : decode cX9_ticks 17 = .ok (.if_icmp .ge 87, 3) := by decide +kernel
theorem dX9_ticks_176 : decode cX9_ticks 176 = .ok (.return_, 1) := by decide +kernel
theorem dX9_ticks_2 : decode cX9_ticks 2 = .ok (.getfield 197, 3) := by decide +kernel
theorem dX9_ticks_5 : decode cX9_ticks 5 = .ok (.iconst 1, 1) := by decide +kernel
theorem dX9_ticks_6 : decode cX9_ticks 6 = .ok (.iadd, 1) := by decide +kernel
theorem dX9_ticks_7 : decode cX9_ticks 7 = .ok (.putfield 197, 3) := by decide +kernel
theorem dX9_told_0 : decode cX9_told 0 = .ok (.aload_n 0, 1) := by decide +kernel
theorem dX9_told_1 : decode cX9_told 1 = .ok (.iload_n 1, 1) := by decide +kernel
theorem dX9_told_10 : decode cX9_told 10 = .ok (.invokestatic 96, 3) := by decide +kernel
theorem dX9_told_13 : decode cX9_told 13 = .ok (.istore 4, 2) := by decide +kernel
theorem dX9_told_15 : decode cX9_told 15 = .ok (.aload_n 0, 1) := by decide +kernel
theorem dX9_told_16 : decode cX9_told 16 = .ok (.iload_n 3, 1) := by decide +kernel
theorem dX9_told_17 : decode cX9_told 17 = .ok (.iload 4, 2) := by decide +kernel
theorem dX9_told_19 : decode cX9_told 19 = .ok (.iload_n 3, 1) := by decide +kernel
theorem dX9_told_2 : decode cX9_told 2 = .ok (.invokevirtual 262, 3) := by decide +kernel
theorem dX9_told_20 : decode cX9_told 20 = .ok (.ifCond .eq 20, 3) := by decide +kernel
theorem dX9_told_40 : decode cX9_told 40 = .ok (.iconst 0, 1) := by decide +kernel
theorem dX9_told_41 : decode cX9_told 41 = .ok (.invokevirtual 259, 3) := by decide +kernel
theorem dX9_told_44 : decode cX9_told 44 = .ok (.ifCond .ne 5, 3) := by decide +kernel
theorem dX9_told_47 : decode cX9_told 47 = .ok (.iconst 0, 1) := by decide +kernel
theorem dX9_told_48 : decode cX9_told 48 = .ok (.ireturn, 1) := by decide +kernel
theorem dX9_told_5 : decode cX9_told 5 = .ok (.istore_n 3, 1) := by decide +kernel
theorem dX9_told_6 : decode cX9_told 6 = .ok (.iload_n 2, 1) := by decide +kernel
theorem dX9_told_7 : decode cX9_told 7 = .ok (.iconst 0, 1) := by decide +kernel
theorem dX9_told_8 : decode cX9_told 8 = .ok (.bipush 8, 2) := by decide +kernel
theorem dX9_unfit_0 : decode cX9_unfit 0 = .ok (.iconst 0, 1) := by decide +kernel
theorem dX9_unfit_1 : decode cX9_unfit 1 = .ok (.istore_n 2, 1) := by decide +kernel
theorem dX9_unfit_2 : decode cX9_unfit 2 = .ok (.iconst 0, 1) := by decide +kernel
theorem dX9_unfit_3 : decode cX9_unfit 3 = .ok (.istore_n 3, 1) := by decide +kernel
theorem dX9_unfit_4 : decode cX9_unfit 4 = .ok (.iload_n 3, 1) := by decide +kernel
theorem dX9_unfit_5 : decode cX9_unfit 5 = .ok (.aload_n 0, 1) := by decide +kernel
theorem dX9_unfit_53 : decode cX9_unfit 53 = .ok (.iload_n 2, 1) := by decide +kernel
theorem dX9_unfit_54 : decode cX9_unfit 54 = .ok (.ireturn, 1) := by decide +kernel
theorem dX9_unfit_6 : decode cX9_unfit 6 = .ok (.getfield 93, 3) := by decide +kernel
theorem dX9_unfit_9 : decode cX9_unfit 9 = .ok (.if_icmp .ge 44, 3) := by decide +kernel
theorem dX9_workflows_0 : decode cX9_workflows 0 = .ok (.aload_n 0, 1) := by decide +kernel
theorem dX9_workflows_1 : decode cX9_workflows 1 = .ok (.iconst 0, 1) := by decide +kernel
theorem dX9_workflows_2 : decode cX9_workflows 2 = .ok (.putfield 90, 3) := by decide +kernel
theorem dX9_workflows_5 : decode cX9_workflows 5 = .ok (.aload_n 0, 1) := by decide +kernel
theorem dX9_workflows_6 : decode cX9_workflows 6 = .ok (.getfield 93, 3) := by decide +kernel
theorem dX9_workflows_9 : decode cX9_workflows 9 = .ok (.ireturn, 1) := by decide +kernel
