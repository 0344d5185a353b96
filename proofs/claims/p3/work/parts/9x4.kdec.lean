set_option maxRecDepth 100000 in
theorem dlw_1011 : decode cL_law 1011 = .ok (.aload_n 3, 1) := by decide +kernel
set_option maxRecDepth 100000 in
theorem dlw_1012 : decode cL_law 1012 = .ok (.invokestatic 186, 3) := by decide +kernel
set_option maxRecDepth 100000 in
theorem dlw_1015 : decode cL_law 1015 = .ok (.istore 5, 2) := by decide +kernel
set_option maxRecDepth 100000 in
theorem dlw_1017 : decode cL_law 1017 = .ok (.aload_n 2, 1) := by decide +kernel
set_option maxRecDepth 100000 in
theorem dlw_1018 : decode cL_law 1018 = .ok (.aload_n 0, 1) := by decide +kernel
set_option maxRecDepth 100000 in
theorem dlw_1019 : decode cL_law 1019 = .ok (.iload 4, 2) := by decide +kernel
set_option maxRecDepth 100000 in
theorem dlw_1021 : decode cL_law 1021 = .ok (.iconst 1, 1) := by decide +kernel
set_option maxRecDepth 100000 in
theorem dlw_1022 : decode cL_law 1022 = .ok (.iadd, 1) := by decide +kernel
set_option maxRecDepth 100000 in
theorem dlw_1023 : decode cL_law 1023 = .ok (.iaload, 1) := by decide +kernel
set_option maxRecDepth 100000 in
theorem dlw_1024 : decode cL_law 1024 = .ok (.aload_n 0, 1) := by decide +kernel
set_option maxRecDepth 100000 in
theorem dlw_1025 : decode cL_law 1025 = .ok (.iload 4, 2) := by decide +kernel
set_option maxRecDepth 100000 in
theorem dlw_1027 : decode cL_law 1027 = .ok (.iconst 2, 1) := by decide +kernel
set_option maxRecDepth 100000 in
theorem dlw_1028 : decode cL_law 1028 = .ok (.iadd, 1) := by decide +kernel
set_option maxRecDepth 100000 in
theorem dlw_1029 : decode cL_law 1029 = .ok (.iaload, 1) := by decide +kernel
set_option maxRecDepth 100000 in
theorem dlw_1030 : decode cL_law 1030 = .ok (.invokevirtual 188, 3) := by decide +kernel
set_option maxRecDepth 100000 in
theorem dlw_1033 : decode cL_law 1033 = .ok (.istore 6, 2) := by decide +kernel
set_option maxRecDepth 100000 in
theorem dlw_1035 : decode cL_law 1035 = .ok (.goto 124, 3) := by decide +kernel
set_option maxRecDepth 100000 in
theorem dlw_1038 : decode cL_law 1038 = .ok (.aload_n 1, 1) := by decide +kernel
set_option maxRecDepth 100000 in
theorem dlw_1039 : decode cL_law 1039 = .ok (.aload_n 0, 1) := by decide +kernel
set_option maxRecDepth 100000 in
theorem dlw_1040 : decode cL_law 1040 = .ok (.iload 4, 2) := by decide +kernel
set_option maxRecDepth 100000 in
theorem dlw_1042 : decode cL_law 1042 = .ok (.iconst 1, 1) := by decide +kernel
set_option maxRecDepth 100000 in
theorem dlw_1043 : decode cL_law 1043 = .ok (.iadd, 1) := by decide +kernel
set_option maxRecDepth 100000 in
theorem dlw_1044 : decode cL_law 1044 = .ok (.iaload, 1) := by decide +kernel
set_option maxRecDepth 100000 in
theorem dlw_1045 : decode cL_law 1045 = .ok (.aload_n 0, 1) := by decide +kernel
set_option maxRecDepth 100000 in
theorem dlw_1046 : decode cL_law 1046 = .ok (.iload 4, 2) := by decide +kernel
set_option maxRecDepth 100000 in
theorem dlw_1048 : decode cL_law 1048 = .ok (.iconst 2, 1) := by decide +kernel
set_option maxRecDepth 100000 in
theorem dlw_1049 : decode cL_law 1049 = .ok (.iadd, 1) := by decide +kernel
set_option maxRecDepth 100000 in
theorem dlw_1050 : decode cL_law 1050 = .ok (.iaload, 1) := by decide +kernel
set_option maxRecDepth 100000 in
theorem dlw_1051 : decode cL_law 1051 = .ok (.aload_n 3, 1) := by decide +kernel
set_option maxRecDepth 100000 in
theorem dlw_1052 : decode cL_law 1052 = .ok (.invokestatic 189, 3) := by decide +kernel
set_option maxRecDepth 100000 in
theorem dlw_1055 : decode cL_law 1055 = .ok (.istore 5, 2) := by decide +kernel
set_option maxRecDepth 100000 in
theorem dlw_1057 : decode cL_law 1057 = .ok (.aload_n 2, 1) := by decide +kernel
set_option maxRecDepth 100000 in
theorem dlw_1058 : decode cL_law 1058 = .ok (.aload_n 0, 1) := by decide +kernel
set_option maxRecDepth 100000 in
theorem dlw_1059 : decode cL_law 1059 = .ok (.iload 4, 2) := by decide +kernel
set_option maxRecDepth 100000 in
theorem dlw_1061 : decode cL_law 1061 = .ok (.iconst 1, 1) := by decide +kernel
set_option maxRecDepth 100000 in
theorem dlw_1062 : decode cL_law 1062 = .ok (.iadd, 1) := by decide +kernel
set_option maxRecDepth 100000 in
theorem dlw_1063 : decode cL_law 1063 = .ok (.iaload, 1) := by decide +kernel
set_option maxRecDepth 100000 in
theorem dlw_1064 : decode cL_law 1064 = .ok (.aload_n 0, 1) := by decide +kernel
set_option maxRecDepth 100000 in
theorem dlw_1065 : decode cL_law 1065 = .ok (.iload 4, 2) := by decide +kernel
set_option maxRecDepth 100000 in
theorem dlw_1067 : decode cL_law 1067 = .ok (.iconst 2, 1) := by decide +kernel
set_option maxRecDepth 100000 in
theorem dlw_1068 : decode cL_law 1068 = .ok (.iadd, 1) := by decide +kernel
set_option maxRecDepth 100000 in
theorem dlw_1069 : decode cL_law 1069 = .ok (.iaload, 1) := by decide +kernel
set_option maxRecDepth 100000 in
theorem dlw_1070 : decode cL_law 1070 = .ok (.invokevirtual 191, 3) := by decide +kernel
set_option maxRecDepth 100000 in
theorem dlw_1073 : decode cL_law 1073 = .ok (.istore 6, 2) := by decide +kernel
set_option maxRecDepth 100000 in
theorem dlw_1075 : decode cL_law 1075 = .ok (.goto 84, 3) := by decide +kernel
set_option maxRecDepth 100000 in
theorem dlw_1078 : decode cL_law 1078 = .ok (.aload_n 1, 1) := by decide +kernel
set_option maxRecDepth 100000 in
theorem dlw_1079 : decode cL_law 1079 = .ok (.aload_n 0, 1) := by decide +kernel
set_option maxRecDepth 100000 in
theorem dlw_1080 : decode cL_law 1080 = .ok (.iload 4, 2) := by decide +kernel
set_option maxRecDepth 100000 in
theorem dlw_1082 : decode cL_law 1082 = .ok (.iconst 1, 1) := by decide +kernel
set_option maxRecDepth 100000 in
theorem dlw_1083 : decode cL_law 1083 = .ok (.iadd, 1) := by decide +kernel
set_option maxRecDepth 100000 in
theorem dlw_1084 : decode cL_law 1084 = .ok (.iaload, 1) := by decide +kernel
set_option maxRecDepth 100000 in
theorem dlw_1085 : decode cL_law 1085 = .ok (.aload_n 0, 1) := by decide +kernel
set_option maxRecDepth 100000 in
theorem dlw_1086 : decode cL_law 1086 = .ok (.iload 4, 2) := by decide +kernel
set_option maxRecDepth 100000 in
theorem dlw_1088 : decode cL_law 1088 = .ok (.iconst 2, 1) := by decide +kernel
set_option maxRecDepth 100000 in
theorem dlw_1089 : decode cL_law 1089 = .ok (.iadd, 1) := by decide +kernel
set_option maxRecDepth 100000 in
theorem dlw_1090 : decode cL_law 1090 = .ok (.iaload, 1) := by decide +kernel
set_option maxRecDepth 100000 in
theorem dlw_1091 : decode cL_law 1091 = .ok (.aload_n 3, 1) := by decide +kernel
set_option maxRecDepth 100000 in
theorem dlw_1092 : decode cL_law 1092 = .ok (.invokestatic 192, 3) := by decide +kernel
set_option maxRecDepth 100000 in
theorem dlw_1095 : decode cL_law 1095 = .ok (.istore 5, 2) := by decide +kernel
set_option maxRecDepth 100000 in
theorem dlw_1097 : decode cL_law 1097 = .ok (.aload_n 2, 1) := by decide +kernel
set_option maxRecDepth 100000 in
theorem dlw_1098 : decode cL_law 1098 = .ok (.aload_n 0, 1) := by decide +kernel
set_option maxRecDepth 100000 in
theorem dlw_1099 : decode cL_law 1099 = .ok (.iload 4, 2) := by decide +kernel
set_option maxRecDepth 100000 in
theorem dlw_1101 : decode cL_law 1101 = .ok (.iconst 1, 1) := by decide +kernel
set_option maxRecDepth 100000 in
theorem dlw_1102 : decode cL_law 1102 = .ok (.iadd, 1) := by decide +kernel
set_option maxRecDepth 100000 in
theorem dlw_1103 : decode cL_law 1103 = .ok (.iaload, 1) := by decide +kernel
set_option maxRecDepth 100000 in
theorem dlw_1104 : decode cL_law 1104 = .ok (.aload_n 0, 1) := by decide +kernel
set_option maxRecDepth 100000 in
theorem dlw_1105 : decode cL_law 1105 = .ok (.iload 4, 2) := by decide +kernel
set_option maxRecDepth 100000 in
theorem dlw_1107 : decode cL_law 1107 = .ok (.iconst 2, 1) := by decide +kernel
set_option maxRecDepth 100000 in
theorem dlw_1108 : decode cL_law 1108 = .ok (.iadd, 1) := by decide +kernel
set_option maxRecDepth 100000 in
theorem dlw_1109 : decode cL_law 1109 = .ok (.iaload, 1) := by decide +kernel
set_option maxRecDepth 100000 in
theorem dlw_1110 : decode cL_law 1110 = .ok (.invokevirtual 194, 3) := by decide +kernel
set_option maxRecDepth 100000 in
theorem dlw_1113 : decode cL_law 1113 = .ok (.istore 6, 2) := by decide +kernel
set_option maxRecDepth 100000 in
theorem dlw_1115 : decode cL_law 1115 = .ok (.goto 44, 3) := by decide +kernel
set_option maxRecDepth 100000 in
theorem dlw_1118 : decode cL_law 1118 = .ok (.aload_n 1, 1) := by decide +kernel
set_option maxRecDepth 100000 in
theorem dlw_1119 : decode cL_law 1119 = .ok (.aload_n 0, 1) := by decide +kernel
set_option maxRecDepth 100000 in
theorem dlw_1120 : decode cL_law 1120 = .ok (.iload 4, 2) := by decide +kernel
set_option maxRecDepth 100000 in
theorem dlw_1122 : decode cL_law 1122 = .ok (.iconst 1, 1) := by decide +kernel
set_option maxRecDepth 100000 in
theorem dlw_1123 : decode cL_law 1123 = .ok (.iadd, 1) := by decide +kernel
set_option maxRecDepth 100000 in
theorem dlw_1124 : decode cL_law 1124 = .ok (.iaload, 1) := by decide +kernel
set_option maxRecDepth 100000 in
theorem dlw_1125 : decode cL_law 1125 = .ok (.aload_n 3, 1) := by decide +kernel
set_option maxRecDepth 100000 in
theorem dlw_1126 : decode cL_law 1126 = .ok (.invokestatic 195, 3) := by decide +kernel
set_option maxRecDepth 100000 in
theorem dlw_1129 : decode cL_law 1129 = .ok (.istore 5, 2) := by decide +kernel
set_option maxRecDepth 100000 in
theorem dlw_1131 : decode cL_law 1131 = .ok (.aload_n 2, 1) := by decide +kernel
set_option maxRecDepth 100000 in
theorem dlw_1132 : decode cL_law 1132 = .ok (.aload_n 0, 1) := by decide +kernel
set_option maxRecDepth 100000 in
theorem dlw_1133 : decode cL_law 1133 = .ok (.iload 4, 2) := by decide +kernel
set_option maxRecDepth 100000 in
theorem dlw_1135 : decode cL_law 1135 = .ok (.iconst 1, 1) := by decide +kernel
set_option maxRecDepth 100000 in
theorem dlw_1136 : decode cL_law 1136 = .ok (.iadd, 1) := by decide +kernel
set_option maxRecDepth 100000 in
theorem dlw_1137 : decode cL_law 1137 = .ok (.iaload, 1) := by decide +kernel
set_option maxRecDepth 100000 in
theorem dlw_1138 : decode cL_law 1138 = .ok (.invokevirtual 197, 3) := by decide +kernel
set_option maxRecDepth 100000 in
theorem dlw_1141 : decode cL_law 1141 = .ok (.istore 6, 2) := by decide +kernel
set_option maxRecDepth 100000 in
theorem dlw_1143 : decode cL_law 1143 = .ok (.goto 16, 3) := by decide +kernel
set_option maxRecDepth 100000 in
theorem dlw_1146 : decode cL_law 1146 = .ok (.aload_n 1, 1) := by decide +kernel
set_option maxRecDepth 100000 in
theorem dlw_1147 : decode cL_law 1147 = .ok (.invokevirtual 198, 3) := by decide +kernel
set_option maxRecDepth 100000 in
theorem dlw_1150 : decode cL_law 1150 = .ok (.pop, 1) := by decide +kernel
set_option maxRecDepth 100000 in
theorem dlw_1151 : decode cL_law 1151 = .ok (.aload_n 2, 1) := by decide +kernel
set_option maxRecDepth 100000 in
theorem dlw_1152 : decode cL_law 1152 = .ok (.invokevirtual 201, 3) := by decide +kernel
set_option maxRecDepth 100000 in
theorem dlw_1155 : decode cL_law 1155 = .ok (.pop, 1) := by decide +kernel
set_option maxRecDepth 100000 in
theorem dlw_1156 : decode cL_law 1156 = .ok (.goto 3, 3) := by decide +kernel
set_option maxRecDepth 100000 in
theorem dlw_1159 : decode cL_law 1159 = .ok (.iinc 4 4, 3) := by decide +kernel
set_option maxRecDepth 100000 in
theorem dlw_1162 : decode cL_law 1162 = .ok (.goto (-1139), 3) := by decide +kernel
set_option maxRecDepth 100000 in
theorem dlw_1165 : decode cL_law 1165 = .ok (.iconst 1, 1) := by decide +kernel
set_option maxRecDepth 100000 in
theorem dlw_1166 : decode cL_law 1166 = .ok (.ireturn, 1) := by decide +kernel
