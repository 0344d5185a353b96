set_option maxRecDepth 100000 in
theorem dlw_1015 : decode cL_law 1015 = .ok (.iconst 3, 1) := by decide +kernel
set_option maxRecDepth 100000 in
theorem dlw_1016 : decode cL_law 1016 = .ok (.iadd, 1) := by decide +kernel
set_option maxRecDepth 100000 in
theorem dlw_1017 : decode cL_law 1017 = .ok (.iaload, 1) := by decide +kernel
set_option maxRecDepth 100000 in
theorem dlw_1018 : decode cL_law 1018 = .ok (.invokevirtual 188, 3) := by decide +kernel
set_option maxRecDepth 100000 in
theorem dlw_1021 : decode cL_law 1021 = .ok (.istore 6, 2) := by decide +kernel
set_option maxRecDepth 100000 in
theorem dlw_1023 : decode cL_law 1023 = .ok (.goto 164, 3) := by decide +kernel
set_option maxRecDepth 100000 in
theorem dlw_1026 : decode cL_law 1026 = .ok (.aload_n 1, 1) := by decide +kernel
set_option maxRecDepth 100000 in
theorem dlw_1027 : decode cL_law 1027 = .ok (.aload_n 0, 1) := by decide +kernel
set_option maxRecDepth 100000 in
theorem dlw_1028 : decode cL_law 1028 = .ok (.iload 4, 2) := by decide +kernel
set_option maxRecDepth 100000 in
theorem dlw_1030 : decode cL_law 1030 = .ok (.iconst 1, 1) := by decide +kernel
set_option maxRecDepth 100000 in
theorem dlw_1031 : decode cL_law 1031 = .ok (.iadd, 1) := by decide +kernel
set_option maxRecDepth 100000 in
theorem dlw_1032 : decode cL_law 1032 = .ok (.iaload, 1) := by decide +kernel
set_option maxRecDepth 100000 in
theorem dlw_1033 : decode cL_law 1033 = .ok (.aload_n 0, 1) := by decide +kernel
set_option maxRecDepth 100000 in
theorem dlw_1034 : decode cL_law 1034 = .ok (.iload 4, 2) := by decide +kernel
set_option maxRecDepth 100000 in
theorem dlw_1036 : decode cL_law 1036 = .ok (.iconst 2, 1) := by decide +kernel
set_option maxRecDepth 100000 in
theorem dlw_1037 : decode cL_law 1037 = .ok (.iadd, 1) := by decide +kernel
set_option maxRecDepth 100000 in
theorem dlw_1038 : decode cL_law 1038 = .ok (.iaload, 1) := by decide +kernel
set_option maxRecDepth 100000 in
theorem dlw_1039 : decode cL_law 1039 = .ok (.aload_n 3, 1) := by decide +kernel
set_option maxRecDepth 100000 in
theorem dlw_1040 : decode cL_law 1040 = .ok (.invokestatic 189, 3) := by decide +kernel
set_option maxRecDepth 100000 in
theorem dlw_1043 : decode cL_law 1043 = .ok (.istore 5, 2) := by decide +kernel
set_option maxRecDepth 100000 in
theorem dlw_1045 : decode cL_law 1045 = .ok (.aload_n 2, 1) := by decide +kernel
set_option maxRecDepth 100000 in
theorem dlw_1046 : decode cL_law 1046 = .ok (.aload_n 0, 1) := by decide +kernel
set_option maxRecDepth 100000 in
theorem dlw_1047 : decode cL_law 1047 = .ok (.iload 4, 2) := by decide +kernel
set_option maxRecDepth 100000 in
theorem dlw_1049 : decode cL_law 1049 = .ok (.iconst 1, 1) := by decide +kernel
set_option maxRecDepth 100000 in
theorem dlw_1050 : decode cL_law 1050 = .ok (.iadd, 1) := by decide +kernel
set_option maxRecDepth 100000 in
theorem dlw_1051 : decode cL_law 1051 = .ok (.iaload, 1) := by decide +kernel
set_option maxRecDepth 100000 in
theorem dlw_1052 : decode cL_law 1052 = .ok (.aload_n 0, 1) := by decide +kernel
set_option maxRecDepth 100000 in
theorem dlw_1053 : decode cL_law 1053 = .ok (.iload 4, 2) := by decide +kernel
set_option maxRecDepth 100000 in
theorem dlw_1055 : decode cL_law 1055 = .ok (.iconst 2, 1) := by decide +kernel
set_option maxRecDepth 100000 in
theorem dlw_1056 : decode cL_law 1056 = .ok (.iadd, 1) := by decide +kernel
set_option maxRecDepth 100000 in
theorem dlw_1057 : decode cL_law 1057 = .ok (.iaload, 1) := by decide +kernel
set_option maxRecDepth 100000 in
theorem dlw_1058 : decode cL_law 1058 = .ok (.invokevirtual 191, 3) := by decide +kernel
set_option maxRecDepth 100000 in
theorem dlw_1061 : decode cL_law 1061 = .ok (.istore 6, 2) := by decide +kernel
set_option maxRecDepth 100000 in
theorem dlw_1063 : decode cL_law 1063 = .ok (.goto 124, 3) := by decide +kernel
set_option maxRecDepth 100000 in
theorem dlw_1066 : decode cL_law 1066 = .ok (.aload_n 1, 1) := by decide +kernel
set_option maxRecDepth 100000 in
theorem dlw_1067 : decode cL_law 1067 = .ok (.aload_n 0, 1) := by decide +kernel
set_option maxRecDepth 100000 in
theorem dlw_1068 : decode cL_law 1068 = .ok (.iload 4, 2) := by decide +kernel
set_option maxRecDepth 100000 in
theorem dlw_1070 : decode cL_law 1070 = .ok (.iconst 1, 1) := by decide +kernel
set_option maxRecDepth 100000 in
theorem dlw_1071 : decode cL_law 1071 = .ok (.iadd, 1) := by decide +kernel
set_option maxRecDepth 100000 in
theorem dlw_1072 : decode cL_law 1072 = .ok (.iaload, 1) := by decide +kernel
set_option maxRecDepth 100000 in
theorem dlw_1073 : decode cL_law 1073 = .ok (.aload_n 0, 1) := by decide +kernel
set_option maxRecDepth 100000 in
theorem dlw_1074 : decode cL_law 1074 = .ok (.iload 4, 2) := by decide +kernel
set_option maxRecDepth 100000 in
theorem dlw_1076 : decode cL_law 1076 = .ok (.iconst 2, 1) := by decide +kernel
set_option maxRecDepth 100000 in
theorem dlw_1077 : decode cL_law 1077 = .ok (.iadd, 1) := by decide +kernel
set_option maxRecDepth 100000 in
theorem dlw_1078 : decode cL_law 1078 = .ok (.iaload, 1) := by decide +kernel
set_option maxRecDepth 100000 in
theorem dlw_1079 : decode cL_law 1079 = .ok (.aload_n 3, 1) := by decide +kernel
set_option maxRecDepth 100000 in
theorem dlw_1080 : decode cL_law 1080 = .ok (.invokestatic 192, 3) := by decide +kernel
set_option maxRecDepth 100000 in
theorem dlw_1083 : decode cL_law 1083 = .ok (.istore 5, 2) := by decide +kernel
set_option maxRecDepth 100000 in
theorem dlw_1085 : decode cL_law 1085 = .ok (.aload_n 2, 1) := by decide +kernel
set_option maxRecDepth 100000 in
theorem dlw_1086 : decode cL_law 1086 = .ok (.aload_n 0, 1) := by decide +kernel
set_option maxRecDepth 100000 in
theorem dlw_1087 : decode cL_law 1087 = .ok (.iload 4, 2) := by decide +kernel
set_option maxRecDepth 100000 in
theorem dlw_1089 : decode cL_law 1089 = .ok (.iconst 1, 1) := by decide +kernel
set_option maxRecDepth 100000 in
theorem dlw_1090 : decode cL_law 1090 = .ok (.iadd, 1) := by decide +kernel
set_option maxRecDepth 100000 in
theorem dlw_1091 : decode cL_law 1091 = .ok (.iaload, 1) := by decide +kernel
set_option maxRecDepth 100000 in
theorem dlw_1092 : decode cL_law 1092 = .ok (.aload_n 0, 1) := by decide +kernel
set_option maxRecDepth 100000 in
theorem dlw_1093 : decode cL_law 1093 = .ok (.iload 4, 2) := by decide +kernel
set_option maxRecDepth 100000 in
theorem dlw_1095 : decode cL_law 1095 = .ok (.iconst 2, 1) := by decide +kernel
set_option maxRecDepth 100000 in
theorem dlw_1096 : decode cL_law 1096 = .ok (.iadd, 1) := by decide +kernel
set_option maxRecDepth 100000 in
theorem dlw_1097 : decode cL_law 1097 = .ok (.iaload, 1) := by decide +kernel
set_option maxRecDepth 100000 in
theorem dlw_1098 : decode cL_law 1098 = .ok (.invokevirtual 194, 3) := by decide +kernel
set_option maxRecDepth 100000 in
theorem dlw_1101 : decode cL_law 1101 = .ok (.istore 6, 2) := by decide +kernel
set_option maxRecDepth 100000 in
theorem dlw_1103 : decode cL_law 1103 = .ok (.goto 84, 3) := by decide +kernel
set_option maxRecDepth 100000 in
theorem dlw_1106 : decode cL_law 1106 = .ok (.aload_n 1, 1) := by decide +kernel
set_option maxRecDepth 100000 in
theorem dlw_1107 : decode cL_law 1107 = .ok (.aload_n 0, 1) := by decide +kernel
set_option maxRecDepth 100000 in
theorem dlw_1108 : decode cL_law 1108 = .ok (.iload 4, 2) := by decide +kernel
set_option maxRecDepth 100000 in
theorem dlw_1110 : decode cL_law 1110 = .ok (.iconst 1, 1) := by decide +kernel
set_option maxRecDepth 100000 in
theorem dlw_1111 : decode cL_law 1111 = .ok (.iadd, 1) := by decide +kernel
set_option maxRecDepth 100000 in
theorem dlw_1112 : decode cL_law 1112 = .ok (.iaload, 1) := by decide +kernel
set_option maxRecDepth 100000 in
theorem dlw_1113 : decode cL_law 1113 = .ok (.aload_n 0, 1) := by decide +kernel
set_option maxRecDepth 100000 in
theorem dlw_1114 : decode cL_law 1114 = .ok (.iload 4, 2) := by decide +kernel
set_option maxRecDepth 100000 in
theorem dlw_1116 : decode cL_law 1116 = .ok (.iconst 2, 1) := by decide +kernel
set_option maxRecDepth 100000 in
theorem dlw_1117 : decode cL_law 1117 = .ok (.iadd, 1) := by decide +kernel
set_option maxRecDepth 100000 in
theorem dlw_1118 : decode cL_law 1118 = .ok (.iaload, 1) := by decide +kernel
set_option maxRecDepth 100000 in
theorem dlw_1119 : decode cL_law 1119 = .ok (.aload_n 3, 1) := by decide +kernel
set_option maxRecDepth 100000 in
theorem dlw_1120 : decode cL_law 1120 = .ok (.invokestatic 195, 3) := by decide +kernel
set_option maxRecDepth 100000 in
theorem dlw_1123 : decode cL_law 1123 = .ok (.istore 5, 2) := by decide +kernel
set_option maxRecDepth 100000 in
theorem dlw_1125 : decode cL_law 1125 = .ok (.aload_n 2, 1) := by decide +kernel
set_option maxRecDepth 100000 in
theorem dlw_1126 : decode cL_law 1126 = .ok (.aload_n 0, 1) := by decide +kernel
set_option maxRecDepth 100000 in
theorem dlw_1127 : decode cL_law 1127 = .ok (.iload 4, 2) := by decide +kernel
set_option maxRecDepth 100000 in
theorem dlw_1129 : decode cL_law 1129 = .ok (.iconst 1, 1) := by decide +kernel
set_option maxRecDepth 100000 in
theorem dlw_1130 : decode cL_law 1130 = .ok (.iadd, 1) := by decide +kernel
set_option maxRecDepth 100000 in
theorem dlw_1131 : decode cL_law 1131 = .ok (.iaload, 1) := by decide +kernel
set_option maxRecDepth 100000 in
theorem dlw_1132 : decode cL_law 1132 = .ok (.aload_n 0, 1) := by decide +kernel
set_option maxRecDepth 100000 in
theorem dlw_1133 : decode cL_law 1133 = .ok (.iload 4, 2) := by decide +kernel
set_option maxRecDepth 100000 in
theorem dlw_1135 : decode cL_law 1135 = .ok (.iconst 2, 1) := by decide +kernel
set_option maxRecDepth 100000 in
theorem dlw_1136 : decode cL_law 1136 = .ok (.iadd, 1) := by decide +kernel
set_option maxRecDepth 100000 in
theorem dlw_1137 : decode cL_law 1137 = .ok (.iaload, 1) := by decide +kernel
set_option maxRecDepth 100000 in
theorem dlw_1138 : decode cL_law 1138 = .ok (.invokevirtual 197, 3) := by decide +kernel
set_option maxRecDepth 100000 in
theorem dlw_1141 : decode cL_law 1141 = .ok (.istore 6, 2) := by decide +kernel
set_option maxRecDepth 100000 in
theorem dlw_1143 : decode cL_law 1143 = .ok (.goto 44, 3) := by decide +kernel
set_option maxRecDepth 100000 in
theorem dlw_1146 : decode cL_law 1146 = .ok (.aload_n 1, 1) := by decide +kernel
set_option maxRecDepth 100000 in
theorem dlw_1147 : decode cL_law 1147 = .ok (.aload_n 0, 1) := by decide +kernel
set_option maxRecDepth 100000 in
theorem dlw_1148 : decode cL_law 1148 = .ok (.iload 4, 2) := by decide +kernel
set_option maxRecDepth 100000 in
theorem dlw_1150 : decode cL_law 1150 = .ok (.iconst 1, 1) := by decide +kernel
set_option maxRecDepth 100000 in
theorem dlw_1151 : decode cL_law 1151 = .ok (.iadd, 1) := by decide +kernel
set_option maxRecDepth 100000 in
theorem dlw_1152 : decode cL_law 1152 = .ok (.iaload, 1) := by decide +kernel
set_option maxRecDepth 100000 in
theorem dlw_1153 : decode cL_law 1153 = .ok (.aload_n 3, 1) := by decide +kernel
set_option maxRecDepth 100000 in
theorem dlw_1154 : decode cL_law 1154 = .ok (.invokestatic 198, 3) := by decide +kernel
set_option maxRecDepth 100000 in
theorem dlw_1157 : decode cL_law 1157 = .ok (.istore 5, 2) := by decide +kernel
set_option maxRecDepth 100000 in
theorem dlw_1159 : decode cL_law 1159 = .ok (.aload_n 2, 1) := by decide +kernel
set_option maxRecDepth 100000 in
theorem dlw_1160 : decode cL_law 1160 = .ok (.aload_n 0, 1) := by decide +kernel
set_option maxRecDepth 100000 in
theorem dlw_1161 : decode cL_law 1161 = .ok (.iload 4, 2) := by decide +kernel
set_option maxRecDepth 100000 in
theorem dlw_1163 : decode cL_law 1163 = .ok (.iconst 1, 1) := by decide +kernel
set_option maxRecDepth 100000 in
theorem dlw_1164 : decode cL_law 1164 = .ok (.iadd, 1) := by decide +kernel
set_option maxRecDepth 100000 in
theorem dlw_1165 : decode cL_law 1165 = .ok (.iaload, 1) := by decide +kernel
set_option maxRecDepth 100000 in
theorem dlw_1166 : decode cL_law 1166 = .ok (.invokevirtual 200, 3) := by decide +kernel
set_option maxRecDepth 100000 in
theorem dlw_1169 : decode cL_law 1169 = .ok (.istore 6, 2) := by decide +kernel
set_option maxRecDepth 100000 in
theorem dlw_1171 : decode cL_law 1171 = .ok (.goto 16, 3) := by decide +kernel
set_option maxRecDepth 100000 in
theorem dlw_1174 : decode cL_law 1174 = .ok (.aload_n 1, 1) := by decide +kernel
set_option maxRecDepth 100000 in
theorem dlw_1175 : decode cL_law 1175 = .ok (.invokevirtual 201, 3) := by decide +kernel
set_option maxRecDepth 100000 in
theorem dlw_1178 : decode cL_law 1178 = .ok (.pop, 1) := by decide +kernel
set_option maxRecDepth 100000 in
theorem dlw_1179 : decode cL_law 1179 = .ok (.aload_n 2, 1) := by decide +kernel
set_option maxRecDepth 100000 in
theorem dlw_1180 : decode cL_law 1180 = .ok (.invokevirtual 204, 3) := by decide +kernel
set_option maxRecDepth 100000 in
theorem dlw_1183 : decode cL_law 1183 = .ok (.pop, 1) := by decide +kernel
set_option maxRecDepth 100000 in
theorem dlw_1184 : decode cL_law 1184 = .ok (.goto 3, 3) := by decide +kernel
set_option maxRecDepth 100000 in
theorem dlw_1187 : decode cL_law 1187 = .ok (.iinc 4 4, 3) := by decide +kernel
set_option maxRecDepth 100000 in
theorem dlw_1190 : decode cL_law 1190 = .ok (.goto (-1167), 3) := by decide +kernel
set_option maxRecDepth 100000 in
theorem dlw_1193 : decode cL_law 1193 = .ok (.iconst 1, 1) := by decide +kernel
set_option maxRecDepth 100000 in
theorem dlw_1194 : decode cL_law 1194 = .ok (.ireturn, 1) := by decide +kernel
