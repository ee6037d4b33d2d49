theorem dL_law_1032 : decode cL_law 1032 = .ok (.aload_n 1, 1) := q_o43 (by decide +kernel)
theorem dL_law_1033 : decode cL_law 1033 = .ok (.invokevirtual 129, 3) := q_o182 (a := 0) (b := 129) (by decide +kernel)
theorem dL_law_1036 : decode cL_law 1036 = .ok (.pop, 1) := q_o87 (by decide +kernel)
theorem dL_law_1037 : decode cL_law 1037 = .ok (.aload_n 2, 1) := q_o44 (by decide +kernel)
theorem dL_law_1038 : decode cL_law 1038 = .ok (.invokevirtual 132, 3) := q_o182 (a := 0) (b := 132) (by decide +kernel)
theorem dL_law_1041 : decode cL_law 1041 = .ok (.pop, 1) := q_o87 (by decide +kernel)
theorem dL_law_1042 : decode cL_law 1042 = .ok (.goto 302, 3) := q_o167 (a := 1) (b := 46) (by decide +kernel) rfl
theorem dL_law_1045 : decode cL_law 1045 = .ok (.aload_n 1, 1) := q_o43 (by decide +kernel)
theorem dL_law_1046 : decode cL_law 1046 = .ok (.aload_n 0, 1) := q_o42 (by decide +kernel)
theorem dL_law_1047 : decode cL_law 1047 = .ok (.iload 4, 2) := q_o21 (a := 4) (by decide +kernel)
theorem dL_law_1049 : decode cL_law 1049 = .ok (.iconst 1, 1) := q_o4 (by decide +kernel)
theorem dL_law_1050 : decode cL_law 1050 = .ok (.iadd, 1) := q_o96 (by decide +kernel)
theorem dL_law_1051 : decode cL_law 1051 = .ok (.iaload, 1) := q_o46 (by decide +kernel)
theorem dL_law_1052 : decode cL_law 1052 = .ok (.invokevirtual 133, 3) := q_o182 (a := 0) (b := 133) (by decide +kernel)
theorem dL_law_1055 : decode cL_law 1055 = .ok (.pop, 1) := q_o87 (by decide +kernel)
theorem dL_law_1056 : decode cL_law 1056 = .ok (.aload_n 2, 1) := q_o44 (by decide +kernel)
theorem dL_law_1057 : decode cL_law 1057 = .ok (.aload_n 0, 1) := q_o42 (by decide +kernel)
theorem dL_law_1058 : decode cL_law 1058 = .ok (.iload 4, 2) := q_o21 (a := 4) (by decide +kernel)
theorem dL_law_1060 : decode cL_law 1060 = .ok (.iconst 1, 1) := q_o4 (by decide +kernel)
theorem dL_law_1061 : decode cL_law 1061 = .ok (.iadd, 1) := q_o96 (by decide +kernel)
theorem dL_law_1062 : decode cL_law 1062 = .ok (.iaload, 1) := q_o46 (by decide +kernel)
theorem dL_law_1063 : decode cL_law 1063 = .ok (.invokevirtual 136, 3) := q_o182 (a := 0) (b := 136) (by decide +kernel)
theorem dL_law_1066 : decode cL_law 1066 = .ok (.pop, 1) := q_o87 (by decide +kernel)
theorem dL_law_1067 : decode cL_law 1067 = .ok (.goto 277, 3) := q_o167 (a := 1) (b := 21) (by decide +kernel) rfl
theorem dL_law_1070 : decode cL_law 1070 = .ok (.aload_n 1, 1) := q_o43 (by decide +kernel)
theorem dL_law_1071 : decode cL_law 1071 = .ok (.aload_n 0, 1) := q_o42 (by decide +kernel)
theorem dL_law_1072 : decode cL_law 1072 = .ok (.iload 4, 2) := q_o21 (a := 4) (by decide +kernel)
theorem dL_law_1074 : decode cL_law 1074 = .ok (.iconst 1, 1) := q_o4 (by decide +kernel)
theorem dL_law_1075 : decode cL_law 1075 = .ok (.iadd, 1) := q_o96 (by decide +kernel)
theorem dL_law_1076 : decode cL_law 1076 = .ok (.iaload, 1) := q_o46 (by decide +kernel)
theorem dL_law_1077 : decode cL_law 1077 = .ok (.invokevirtual 137, 3) := q_o182 (a := 0) (b := 137) (by decide +kernel)
theorem dL_law_1080 : decode cL_law 1080 = .ok (.pop, 1) := q_o87 (by decide +kernel)
theorem dL_law_1081 : decode cL_law 1081 = .ok (.aload_n 2, 1) := q_o44 (by decide +kernel)
theorem dL_law_1082 : decode cL_law 1082 = .ok (.aload_n 0, 1) := q_o42 (by decide +kernel)
theorem dL_law_1083 : decode cL_law 1083 = .ok (.iload 4, 2) := q_o21 (a := 4) (by decide +kernel)
theorem dL_law_1085 : decode cL_law 1085 = .ok (.iconst 1, 1) := q_o4 (by decide +kernel)
theorem dL_law_1086 : decode cL_law 1086 = .ok (.iadd, 1) := q_o96 (by decide +kernel)
theorem dL_law_1087 : decode cL_law 1087 = .ok (.iaload, 1) := q_o46 (by decide +kernel)
theorem dL_law_1088 : decode cL_law 1088 = .ok (.invokevirtual 140, 3) := q_o182 (a := 0) (b := 140) (by decide +kernel)
theorem dL_law_1091 : decode cL_law 1091 = .ok (.pop, 1) := q_o87 (by decide +kernel)
theorem dL_law_1092 : decode cL_law 1092 = .ok (.goto 252, 3) := q_o167 (a := 0) (b := 252) (by decide +kernel) rfl
theorem dL_law_1095 : decode cL_law 1095 = .ok (.aload_n 1, 1) := q_o43 (by decide +kernel)
theorem dL_law_1096 : decode cL_law 1096 = .ok (.aload_n 0, 1) := q_o42 (by decide +kernel)
theorem dL_law_1097 : decode cL_law 1097 = .ok (.iload 4, 2) := q_o21 (a := 4) (by decide +kernel)
theorem dL_law_1099 : decode cL_law 1099 = .ok (.iconst 1, 1) := q_o4 (by decide +kernel)
theorem dL_law_1100 : decode cL_law 1100 = .ok (.iadd, 1) := q_o96 (by decide +kernel)
theorem dL_law_1101 : decode cL_law 1101 = .ok (.iaload, 1) := q_o46 (by decide +kernel)
theorem dL_law_1102 : decode cL_law 1102 = .ok (.invokevirtual 141, 3) := q_o182 (a := 0) (b := 141) (by decide +kernel)
theorem dL_law_1105 : decode cL_law 1105 = .ok (.pop, 1) := q_o87 (by decide +kernel)
theorem dL_law_1106 : decode cL_law 1106 = .ok (.aload_n 2, 1) := q_o44 (by decide +kernel)
theorem dL_law_1107 : decode cL_law 1107 = .ok (.aload_n 0, 1) := q_o42 (by decide +kernel)
theorem dL_law_1108 : decode cL_law 1108 = .ok (.iload 4, 2) := q_o21 (a := 4) (by decide +kernel)
theorem dL_law_1110 : decode cL_law 1110 = .ok (.iconst 1, 1) := q_o4 (by decide +kernel)
theorem dL_law_1111 : decode cL_law 1111 = .ok (.iadd, 1) := q_o96 (by decide +kernel)
theorem dL_law_1112 : decode cL_law 1112 = .ok (.iaload, 1) := q_o46 (by decide +kernel)
theorem dL_law_1113 : decode cL_law 1113 = .ok (.invokevirtual 144, 3) := q_o182 (a := 0) (b := 144) (by decide +kernel)
theorem dL_law_1116 : decode cL_law 1116 = .ok (.pop, 1) := q_o87 (by decide +kernel)
theorem dL_law_1117 : decode cL_law 1117 = .ok (.goto 227, 3) := q_o167 (a := 0) (b := 227) (by decide +kernel) rfl
theorem dL_law_1120 : decode cL_law 1120 = .ok (.aload_n 1, 1) := q_o43 (by decide +kernel)
theorem dL_law_1121 : decode cL_law 1121 = .ok (.aload_n 0, 1) := q_o42 (by decide +kernel)
theorem dL_law_1122 : decode cL_law 1122 = .ok (.iload 4, 2) := q_o21 (a := 4) (by decide +kernel)
theorem dL_law_1124 : decode cL_law 1124 = .ok (.iconst 1, 1) := q_o4 (by decide +kernel)
theorem dL_law_1125 : decode cL_law 1125 = .ok (.iadd, 1) := q_o96 (by decide +kernel)
theorem dL_law_1126 : decode cL_law 1126 = .ok (.iaload, 1) := q_o46 (by decide +kernel)
theorem dL_law_1127 : decode cL_law 1127 = .ok (.aload_n 0, 1) := q_o42 (by decide +kernel)
theorem dL_law_1128 : decode cL_law 1128 = .ok (.iload 4, 2) := q_o21 (a := 4) (by decide +kernel)
theorem dL_law_1130 : decode cL_law 1130 = .ok (.iconst 2, 1) := q_o5 (by decide +kernel)
theorem dL_law_1131 : decode cL_law 1131 = .ok (.iadd, 1) := q_o96 (by decide +kernel)
theorem dL_law_1132 : decode cL_law 1132 = .ok (.iaload, 1) := q_o46 (by decide +kernel)
theorem dL_law_1133 : decode cL_law 1133 = .ok (.invokevirtual 145, 3) := q_o182 (a := 0) (b := 145) (by decide +kernel)
theorem dL_law_1136 : decode cL_law 1136 = .ok (.pop, 1) := q_o87 (by decide +kernel)
theorem dL_law_1137 : decode cL_law 1137 = .ok (.aload_n 2, 1) := q_o44 (by decide +kernel)
theorem dL_law_1138 : decode cL_law 1138 = .ok (.aload_n 0, 1) := q_o42 (by decide +kernel)
theorem dL_law_1139 : decode cL_law 1139 = .ok (.iload 4, 2) := q_o21 (a := 4) (by decide +kernel)
theorem dL_law_1141 : decode cL_law 1141 = .ok (.iconst 1, 1) := q_o4 (by decide +kernel)
theorem dL_law_1142 : decode cL_law 1142 = .ok (.iadd, 1) := q_o96 (by decide +kernel)
theorem dL_law_1143 : decode cL_law 1143 = .ok (.iaload, 1) := q_o46 (by decide +kernel)
theorem dL_law_1144 : decode cL_law 1144 = .ok (.aload_n 0, 1) := q_o42 (by decide +kernel)
theorem dL_law_1145 : decode cL_law 1145 = .ok (.iload 4, 2) := q_o21 (a := 4) (by decide +kernel)
theorem dL_law_1147 : decode cL_law 1147 = .ok (.iconst 2, 1) := q_o5 (by decide +kernel)
theorem dL_law_1148 : decode cL_law 1148 = .ok (.iadd, 1) := q_o96 (by decide +kernel)
theorem dL_law_1149 : decode cL_law 1149 = .ok (.iaload, 1) := q_o46 (by decide +kernel)
theorem dL_law_1150 : decode cL_law 1150 = .ok (.invokevirtual 148, 3) := q_o182 (a := 0) (b := 148) (by decide +kernel)
theorem dL_law_1153 : decode cL_law 1153 = .ok (.pop, 1) := q_o87 (by decide +kernel)
theorem dL_law_1154 : decode cL_law 1154 = .ok (.goto 190, 3) := q_o167 (a := 0) (b := 190) (by decide +kernel) rfl
theorem dL_law_1157 : decode cL_law 1157 = .ok (.aload_n 1, 1) := q_o43 (by decide +kernel)
theorem dL_law_1158 : decode cL_law 1158 = .ok (.aload_n 0, 1) := q_o42 (by decide +kernel)
theorem dL_law_1159 : decode cL_law 1159 = .ok (.iload 4, 2) := q_o21 (a := 4) (by decide +kernel)
theorem dL_law_1161 : decode cL_law 1161 = .ok (.iconst 1, 1) := q_o4 (by decide +kernel)
theorem dL_law_1162 : decode cL_law 1162 = .ok (.iadd, 1) := q_o96 (by decide +kernel)
theorem dL_law_1163 : decode cL_law 1163 = .ok (.iaload, 1) := q_o46 (by decide +kernel)
theorem dL_law_1164 : decode cL_law 1164 = .ok (.aload_n 0, 1) := q_o42 (by decide +kernel)
theorem dL_law_1165 : decode cL_law 1165 = .ok (.iload 4, 2) := q_o21 (a := 4) (by decide +kernel)
theorem dL_law_1167 : decode cL_law 1167 = .ok (.iconst 2, 1) := q_o5 (by decide +kernel)
theorem dL_law_1168 : decode cL_law 1168 = .ok (.iadd, 1) := q_o96 (by decide +kernel)
theorem dL_law_1169 : decode cL_law 1169 = .ok (.iaload, 1) := q_o46 (by decide +kernel)
theorem dL_law_1170 : decode cL_law 1170 = .ok (.aload_n 0, 1) := q_o42 (by decide +kernel)
theorem dL_law_1171 : decode cL_law 1171 = .ok (.iload 4, 2) := q_o21 (a := 4) (by decide +kernel)
theorem dL_law_1173 : decode cL_law 1173 = .ok (.iconst 3, 1) := q_o6 (by decide +kernel)
theorem dL_law_1174 : decode cL_law 1174 = .ok (.iadd, 1) := q_o96 (by decide +kernel)
theorem dL_law_1175 : decode cL_law 1175 = .ok (.iaload, 1) := q_o46 (by decide +kernel)
theorem dL_law_1176 : decode cL_law 1176 = .ok (.invokevirtual 149, 3) := q_o182 (a := 0) (b := 149) (by decide +kernel)
theorem dL_law_1179 : decode cL_law 1179 = .ok (.pop, 1) := q_o87 (by decide +kernel)
theorem dL_law_1180 : decode cL_law 1180 = .ok (.aload_n 2, 1) := q_o44 (by decide +kernel)
theorem dL_law_1181 : decode cL_law 1181 = .ok (.aload_n 0, 1) := q_o42 (by decide +kernel)
theorem dL_law_1182 : decode cL_law 1182 = .ok (.iload 4, 2) := q_o21 (a := 4) (by decide +kernel)
theorem dL_law_1184 : decode cL_law 1184 = .ok (.iconst 1, 1) := q_o4 (by decide +kernel)
theorem dL_law_1185 : decode cL_law 1185 = .ok (.iadd, 1) := q_o96 (by decide +kernel)
theorem dL_law_1186 : decode cL_law 1186 = .ok (.iaload, 1) := q_o46 (by decide +kernel)
theorem dL_law_1187 : decode cL_law 1187 = .ok (.aload_n 0, 1) := q_o42 (by decide +kernel)
theorem dL_law_1188 : decode cL_law 1188 = .ok (.iload 4, 2) := q_o21 (a := 4) (by decide +kernel)
theorem dL_law_1190 : decode cL_law 1190 = .ok (.iconst 2, 1) := q_o5 (by decide +kernel)
theorem dL_law_1191 : decode cL_law 1191 = .ok (.iadd, 1) := q_o96 (by decide +kernel)
theorem dL_law_1192 : decode cL_law 1192 = .ok (.iaload, 1) := q_o46 (by decide +kernel)
theorem dL_law_1193 : decode cL_law 1193 = .ok (.aload_n 0, 1) := q_o42 (by decide +kernel)
theorem dL_law_1194 : decode cL_law 1194 = .ok (.iload 4, 2) := q_o21 (a := 4) (by decide +kernel)
theorem dL_law_1196 : decode cL_law 1196 = .ok (.iconst 3, 1) := q_o6 (by decide +kernel)
theorem dL_law_1197 : decode cL_law 1197 = .ok (.iadd, 1) := q_o96 (by decide +kernel)
theorem dL_law_1198 : decode cL_law 1198 = .ok (.iaload, 1) := q_o46 (by decide +kernel)
theorem dL_law_1199 : decode cL_law 1199 = .ok (.invokevirtual 152, 3) := q_o182 (a := 0) (b := 152) (by decide +kernel)
theorem dL_law_1202 : decode cL_law 1202 = .ok (.pop, 1) := q_o87 (by decide +kernel)
theorem dL_law_1203 : decode cL_law 1203 = .ok (.goto 141, 3) := q_o167 (a := 0) (b := 141) (by decide +kernel) rfl
theorem dL_law_1206 : decode cL_law 1206 = .ok (.aload_n 1, 1) := q_o43 (by decide +kernel)
theorem dL_law_1207 : decode cL_law 1207 = .ok (.aload_n 0, 1) := q_o42 (by decide +kernel)
theorem dL_law_1208 : decode cL_law 1208 = .ok (.iload 4, 2) := q_o21 (a := 4) (by decide +kernel)
theorem dL_law_1210 : decode cL_law 1210 = .ok (.iconst 1, 1) := q_o4 (by decide +kernel)
theorem dL_law_1211 : decode cL_law 1211 = .ok (.iadd, 1) := q_o96 (by decide +kernel)
theorem dL_law_1212 : decode cL_law 1212 = .ok (.iaload, 1) := q_o46 (by decide +kernel)
theorem dL_law_1213 : decode cL_law 1213 = .ok (.aload_n 0, 1) := q_o42 (by decide +kernel)
theorem dL_law_1214 : decode cL_law 1214 = .ok (.iload 4, 2) := q_o21 (a := 4) (by decide +kernel)
theorem dL_law_1216 : decode cL_law 1216 = .ok (.iconst 2, 1) := q_o5 (by decide +kernel)
theorem dL_law_1217 : decode cL_law 1217 = .ok (.iadd, 1) := q_o96 (by decide +kernel)
theorem dL_law_1218 : decode cL_law 1218 = .ok (.iaload, 1) := q_o46 (by decide +kernel)
theorem dL_law_1219 : decode cL_law 1219 = .ok (.invokevirtual 153, 3) := q_o182 (a := 0) (b := 153) (by decide +kernel)
theorem dL_law_1222 : decode cL_law 1222 = .ok (.pop, 1) := q_o87 (by decide +kernel)
theorem dL_law_1223 : decode cL_law 1223 = .ok (.aload_n 2, 1) := q_o44 (by decide +kernel)
theorem dL_law_1224 : decode cL_law 1224 = .ok (.aload_n 0, 1) := q_o42 (by decide +kernel)
theorem dL_law_1225 : decode cL_law 1225 = .ok (.iload 4, 2) := q_o21 (a := 4) (by decide +kernel)
theorem dL_law_1227 : decode cL_law 1227 = .ok (.iconst 1, 1) := q_o4 (by decide +kernel)
theorem dL_law_1228 : decode cL_law 1228 = .ok (.iadd, 1) := q_o96 (by decide +kernel)
theorem dL_law_1229 : decode cL_law 1229 = .ok (.iaload, 1) := q_o46 (by decide +kernel)
theorem dL_law_1230 : decode cL_law 1230 = .ok (.aload_n 0, 1) := q_o42 (by decide +kernel)
theorem dL_law_1231 : decode cL_law 1231 = .ok (.iload 4, 2) := q_o21 (a := 4) (by decide +kernel)
theorem dL_law_1233 : decode cL_law 1233 = .ok (.iconst 2, 1) := q_o5 (by decide +kernel)
theorem dL_law_1234 : decode cL_law 1234 = .ok (.iadd, 1) := q_o96 (by decide +kernel)
theorem dL_law_1235 : decode cL_law 1235 = .ok (.iaload, 1) := q_o46 (by decide +kernel)
theorem dL_law_1236 : decode cL_law 1236 = .ok (.invokevirtual 156, 3) := q_o182 (a := 0) (b := 156) (by decide +kernel)
theorem dL_law_1239 : decode cL_law 1239 = .ok (.pop, 1) := q_o87 (by decide +kernel)
theorem dL_law_1240 : decode cL_law 1240 = .ok (.goto 104, 3) := q_o167 (a := 0) (b := 104) (by decide +kernel) rfl
theorem dL_law_1243 : decode cL_law 1243 = .ok (.aload_n 1, 1) := q_o43 (by decide +kernel)
theorem dL_law_1244 : decode cL_law 1244 = .ok (.aload_n 0, 1) := q_o42 (by decide +kernel)
theorem dL_law_1245 : decode cL_law 1245 = .ok (.iload 4, 2) := q_o21 (a := 4) (by decide +kernel)
theorem dL_law_1247 : decode cL_law 1247 = .ok (.iconst 1, 1) := q_o4 (by decide +kernel)
theorem dL_law_1248 : decode cL_law 1248 = .ok (.iadd, 1) := q_o96 (by decide +kernel)
theorem dL_law_1249 : decode cL_law 1249 = .ok (.iaload, 1) := q_o46 (by decide +kernel)
theorem dL_law_1250 : decode cL_law 1250 = .ok (.invokevirtual 157, 3) := q_o182 (a := 0) (b := 157) (by decide +kernel)
theorem dL_law_1253 : decode cL_law 1253 = .ok (.pop, 1) := q_o87 (by decide +kernel)
theorem dL_law_1254 : decode cL_law 1254 = .ok (.aload_n 2, 1) := q_o44 (by decide +kernel)
theorem dL_law_1255 : decode cL_law 1255 = .ok (.aload_n 0, 1) := q_o42 (by decide +kernel)
theorem dL_law_1256 : decode cL_law 1256 = .ok (.iload 4, 2) := q_o21 (a := 4) (by decide +kernel)
theorem dL_law_1258 : decode cL_law 1258 = .ok (.iconst 1, 1) := q_o4 (by decide +kernel)
theorem dL_law_1259 : decode cL_law 1259 = .ok (.iadd, 1) := q_o96 (by decide +kernel)
theorem dL_law_1260 : decode cL_law 1260 = .ok (.iaload, 1) := q_o46 (by decide +kernel)
theorem dL_law_1261 : decode cL_law 1261 = .ok (.invokevirtual 160, 3) := q_o182 (a := 0) (b := 160) (by decide +kernel)
theorem dL_law_1264 : decode cL_law 1264 = .ok (.pop, 1) := q_o87 (by decide +kernel)
theorem dL_law_1265 : decode cL_law 1265 = .ok (.goto 79, 3) := q_o167 (a := 0) (b := 79) (by decide +kernel) rfl
theorem dL_law_1268 : decode cL_law 1268 = .ok (.aload_n 1, 1) := q_o43 (by decide +kernel)
theorem dL_law_1269 : decode cL_law 1269 = .ok (.aload_n 0, 1) := q_o42 (by decide +kernel)
theorem dL_law_1270 : decode cL_law 1270 = .ok (.iload 4, 2) := q_o21 (a := 4) (by decide +kernel)
theorem dL_law_1272 : decode cL_law 1272 = .ok (.iconst 1, 1) := q_o4 (by decide +kernel)
theorem dL_law_1273 : decode cL_law 1273 = .ok (.iadd, 1) := q_o96 (by decide +kernel)
theorem dL_law_1274 : decode cL_law 1274 = .ok (.iaload, 1) := q_o46 (by decide +kernel)
theorem dL_law_1275 : decode cL_law 1275 = .ok (.invokevirtual 161, 3) := q_o182 (a := 0) (b := 161) (by decide +kernel)
theorem dL_law_1278 : decode cL_law 1278 = .ok (.pop, 1) := q_o87 (by decide +kernel)
theorem dL_law_1279 : decode cL_law 1279 = .ok (.aload_n 2, 1) := q_o44 (by decide +kernel)
theorem dL_law_1280 : decode cL_law 1280 = .ok (.aload_n 0, 1) := q_o42 (by decide +kernel)
theorem dL_law_1281 : decode cL_law 1281 = .ok (.iload 4, 2) := q_o21 (a := 4) (by decide +kernel)
theorem dL_law_1283 : decode cL_law 1283 = .ok (.iconst 1, 1) := q_o4 (by decide +kernel)
theorem dL_law_1284 : decode cL_law 1284 = .ok (.iadd, 1) := q_o96 (by decide +kernel)
theorem dL_law_1285 : decode cL_law 1285 = .ok (.iaload, 1) := q_o46 (by decide +kernel)
theorem dL_law_1286 : decode cL_law 1286 = .ok (.invokevirtual 164, 3) := q_o182 (a := 0) (b := 164) (by decide +kernel)
theorem dL_law_1289 : decode cL_law 1289 = .ok (.pop, 1) := q_o87 (by decide +kernel)
theorem dL_law_1290 : decode cL_law 1290 = .ok (.goto 54, 3) := q_o167 (a := 0) (b := 54) (by decide +kernel) rfl
theorem dL_law_1293 : decode cL_law 1293 = .ok (.aload_n 1, 1) := q_o43 (by decide +kernel)
theorem dL_law_1294 : decode cL_law 1294 = .ok (.invokevirtual 165, 3) := q_o182 (a := 0) (b := 165) (by decide +kernel)
theorem dL_law_1297 : decode cL_law 1297 = .ok (.pop, 1) := q_o87 (by decide +kernel)
theorem dL_law_1298 : decode cL_law 1298 = .ok (.aload_n 2, 1) := q_o44 (by decide +kernel)
theorem dL_law_1299 : decode cL_law 1299 = .ok (.invokevirtual 168, 3) := q_o182 (a := 0) (b := 168) (by decide +kernel)
theorem dL_law_1302 : decode cL_law 1302 = .ok (.pop, 1) := q_o87 (by decide +kernel)
theorem dL_law_1303 : decode cL_law 1303 = .ok (.goto 41, 3) := q_o167 (a := 0) (b := 41) (by decide +kernel) rfl
theorem dL_law_1306 : decode cL_law 1306 = .ok (.aload_n 1, 1) := q_o43 (by decide +kernel)
theorem dL_law_1307 : decode cL_law 1307 = .ok (.invokevirtual 169, 3) := q_o182 (a := 0) (b := 169) (by decide +kernel)
theorem dL_law_1310 : decode cL_law 1310 = .ok (.pop, 1) := q_o87 (by decide +kernel)
theorem dL_law_1311 : decode cL_law 1311 = .ok (.aload_n 2, 1) := q_o44 (by decide +kernel)
theorem dL_law_1312 : decode cL_law 1312 = .ok (.invokevirtual 172, 3) := q_o182 (a := 0) (b := 172) (by decide +kernel)
theorem dL_law_1315 : decode cL_law 1315 = .ok (.pop, 1) := q_o87 (by decide +kernel)
theorem dL_law_1316 : decode cL_law 1316 = .ok (.goto 28, 3) := q_o167 (a := 0) (b := 28) (by decide +kernel) rfl
theorem dL_law_1319 : decode cL_law 1319 = .ok (.aload_n 1, 1) := q_o43 (by decide +kernel)
theorem dL_law_1320 : decode cL_law 1320 = .ok (.aload_n 0, 1) := q_o42 (by decide +kernel)
theorem dL_law_1321 : decode cL_law 1321 = .ok (.iload 4, 2) := q_o21 (a := 4) (by decide +kernel)
theorem dL_law_1323 : decode cL_law 1323 = .ok (.iconst 1, 1) := q_o4 (by decide +kernel)
theorem dL_law_1324 : decode cL_law 1324 = .ok (.iadd, 1) := q_o96 (by decide +kernel)
theorem dL_law_1325 : decode cL_law 1325 = .ok (.iaload, 1) := q_o46 (by decide +kernel)
theorem dL_law_1326 : decode cL_law 1326 = .ok (.invokevirtual 173, 3) := q_o182 (a := 0) (b := 173) (by decide +kernel)
theorem dL_law_1329 : decode cL_law 1329 = .ok (.aload_n 2, 1) := q_o44 (by decide +kernel)
theorem dL_law_1330 : decode cL_law 1330 = .ok (.aload_n 0, 1) := q_o42 (by decide +kernel)
theorem dL_law_1331 : decode cL_law 1331 = .ok (.iload 4, 2) := q_o21 (a := 4) (by decide +kernel)
theorem dL_law_1333 : decode cL_law 1333 = .ok (.iconst 1, 1) := q_o4 (by decide +kernel)
theorem dL_law_1334 : decode cL_law 1334 = .ok (.iadd, 1) := q_o96 (by decide +kernel)
theorem dL_law_1335 : decode cL_law 1335 = .ok (.iaload, 1) := q_o46 (by decide +kernel)
theorem dL_law_1336 : decode cL_law 1336 = .ok (.invokevirtual 176, 3) := q_o182 (a := 0) (b := 176) (by decide +kernel)
theorem dL_law_1339 : decode cL_law 1339 = .ok (.if_icmp .eq 5, 3) := q_o159 (a := 0) (b := 5) (by decide +kernel) rfl
theorem hdV_yX10_all_1 : yX10_all.cls = RX10 ∧ yX10_all.cls ≠ "java/lang/invoke/MethodHandle" ∧ yX10_all.cls ≠ "java/lang/invoke/VarHandle" ∧ (parseMethodDescriptor yX10_all.desc).map (fun d => d.parameters.length) = some 1 := by decide +kernel
theorem hdV_yX10_back_0 : yX10_back.cls = RX10 ∧ yX10_back.cls ≠ "java/lang/invoke/MethodHandle" ∧ yX10_back.cls ≠ "java/lang/invoke/VarHandle" ∧ (parseMethodDescriptor yX10_back.desc).map (fun d => d.parameters.length) = some 0 := by decide +kernel
theorem hdV_yX10_count_1 : yX10_count.cls = RX10 ∧ yX10_count.cls ≠ "java/lang/invoke/MethodHandle" ∧ yX10_count.cls ≠ "java/lang/invoke/VarHandle" ∧ (parseMethodDescriptor yX10_count.desc).map (fun d => d.parameters.length) = some 1 := by decide +kernel
theorem hdV_yX10_image_0 : yX10_image.cls = RX10 ∧ yX10_image.cls ≠ "java/lang/invoke/MethodHandle" ∧ yX10_image.cls ≠ "java/lang/invoke/VarHandle" ∧ (parseMethodDescriptor yX10_image.desc).map (fun d => d.parameters.length) = some 0 := by decide +kernel
theorem hdV_yX10_last_0 : yX10_last.cls = RX10 ∧ yX10_last.cls ≠ "java/lang/invoke/MethodHandle" ∧ yX10_last.cls ≠ "java/lang/invoke/VarHandle" ∧ (parseMethodDescriptor yX10_last.desc).map (fun d => d.parameters.length) = some 0 := by decide +kernel
theorem hdV_yX10_lost_1 : yX10_lost.cls = RX10 ∧ yX10_lost.cls ≠ "java/lang/invoke/MethodHandle" ∧ yX10_lost.cls ≠ "java/lang/invoke/VarHandle" ∧ (parseMethodDescriptor yX10_lost.desc).map (fun d => d.parameters.length) = some 1 := by decide +kernel
theorem hdV_yX10_order_1 : yX10_order.cls = RX10 ∧ yX10_order.cls ≠ "java/lang/invoke/MethodHandle" ∧ yX10_order.cls ≠ "java/lang/invoke/VarHandle" ∧ (parseMethodDescriptor yX10_order.desc).map (fun d => d.parameters.length) = some 1 := by decide +kernel
theorem hdV_yX10_perform_1 : yX10_perform.cls = RX10 ∧ yX10_perform.cls ≠ "java/lang/invoke/MethodHandle" ∧ yX10_perform.cls ≠ "java/lang/invoke/VarHandle" ∧ (parseMethodDescriptor yX10_perform.desc).map (fun d => d.parameters.length) = some 1 := by decide +kernel
theorem hdV_yX10_place_1 : yX10_place.cls = RX10 ∧ yX10_place.cls ≠ "java/lang/invoke/MethodHandle" ∧ yX10_place.cls ≠ "java/lang/invoke/VarHandle" ∧ (parseMethodDescriptor yX10_place.desc).map (fun d => d.parameters.length) = some 1 := by decide +kernel
theorem hdV_yX10_run_2 : yX10_run.cls = RX10 ∧ yX10_run.cls ≠ "java/lang/invoke/MethodHandle" ∧ yX10_run.cls ≠ "java/lang/invoke/VarHandle" ∧ (parseMethodDescriptor yX10_run.desc).map (fun d => d.parameters.length) = some 2 := by decide +kernel
theorem hdV_yX10_shares_2 : yX10_shares.cls = RX10 ∧ yX10_shares.cls ≠ "java/lang/invoke/MethodHandle" ∧ yX10_shares.cls ≠ "java/lang/invoke/VarHandle" ∧ (parseMethodDescriptor yX10_shares.desc).map (fun d => d.parameters.length) = some 2 := by decide +kernel
theorem hdV_yX10_step_3 : yX10_step.cls = RX10 ∧ yX10_step.cls ≠ "java/lang/invoke/MethodHandle" ∧ yX10_step.cls ≠ "java/lang/invoke/VarHandle" ∧ (parseMethodDescriptor yX10_step.desc).map (fun d => d.parameters.length) = some 3 := by decide +kernel
theorem hdV_yX9_all_1 : yX9_all.cls = RX9 ∧ yX9_all.cls ≠ "java/lang/invoke/MethodHandle" ∧ yX9_all.cls ≠ "java/lang/invoke/VarHandle" ∧ (parseMethodDescriptor yX9_all.desc).map (fun d => d.parameters.length) = some 1 := by decide +kernel
theorem hdV_yX9_back_0 : yX9_back.cls = RX9 ∧ yX9_back.cls ≠ "java/lang/invoke/MethodHandle" ∧ yX9_back.cls ≠ "java/lang/invoke/VarHandle" ∧ (parseMethodDescriptor yX9_back.desc).map (fun d => d.parameters.length) = some 0 := by decide +kernel
theorem hdV_yX9_count_1 : yX9_count.cls = RX9 ∧ yX9_count.cls ≠ "java/lang/invoke/MethodHandle" ∧ yX9_count.cls ≠ "java/lang/invoke/VarHandle" ∧ (parseMethodDescriptor yX9_count.desc).map (fun d => d.parameters.length) = some 1 := by decide +kernel
theorem hdV_yX9_image_0 : yX9_image.cls = RX9 ∧ yX9_image.cls ≠ "java/lang/invoke/MethodHandle" ∧ yX9_image.cls ≠ "java/lang/invoke/VarHandle" ∧ (parseMethodDescriptor yX9_image.desc).map (fun d => d.parameters.length) = some 0 := by decide +kernel
theorem hdV_yX9_last_0 : yX9_last.cls = RX9 ∧ yX9_last.cls ≠ "java/lang/invoke/MethodHandle" ∧ yX9_last.cls ≠ "java/lang/invoke/VarHandle" ∧ (parseMethodDescriptor yX9_last.desc).map (fun d => d.parameters.length) = some 0 := by decide +kernel
theorem hdV_yX9_lost_1 : yX9_lost.cls = RX9 ∧ yX9_lost.cls ≠ "java/lang/invoke/MethodHandle" ∧ yX9_lost.cls ≠ "java/lang/invoke/VarHandle" ∧ (parseMethodDescriptor yX9_lost.desc).map (fun d => d.parameters.length) = some 1 := by decide +kernel
theorem hdV_yX9_order_1 : yX9_order.cls = RX9 ∧ yX9_order.cls ≠ "java/lang/invoke/MethodHandle" ∧ yX9_order.cls ≠ "java/lang/invoke/VarHandle" ∧ (parseMethodDescriptor yX9_order.desc).map (fun d => d.parameters.length) = some 1 := by decide +kernel
theorem hdV_yX9_perform_1 : yX9_perform.cls = RX9 ∧ yX9_perform.cls ≠ "java/lang/invoke/MethodHandle" ∧ yX9_perform.cls ≠ "java/lang/invoke/VarHandle" ∧ (parseMethodDescriptor yX9_perform.desc).map (fun d => d.parameters.length) = some 1 := by decide +kernel
theorem hdV_yX9_place_1 : yX9_place.cls = RX9 ∧ yX9_place.cls ≠ "java/lang/invoke/MethodHandle" ∧ yX9_place.cls ≠ "java/lang/invoke/VarHandle" ∧ (parseMethodDescriptor yX9_place.desc).map (fun d => d.parameters.length) = some 1 := by decide +kernel
theorem hdV_yX9_run_2 : yX9_run.cls = RX9 ∧ yX9_run.cls ≠ "java/lang/invoke/MethodHandle" ∧ yX9_run.cls ≠ "java/lang/invoke/VarHandle" ∧ (parseMethodDescriptor yX9_run.desc).map (fun d => d.parameters.length) = some 2 := by decide +kernel
theorem hdV_yX9_shares_2 : yX9_shares.cls = RX9 ∧ yX9_shares.cls ≠ "java/lang/invoke/MethodHandle" ∧ yX9_shares.cls ≠ "java/lang/invoke/VarHandle" ∧ (parseMethodDescriptor yX9_shares.desc).map (fun d => d.parameters.length) = some 2 := by decide +kernel
theorem hdV_yX9_step_3 : yX9_step.cls = RX9 ∧ yX9_step.cls ≠ "java/lang/invoke/MethodHandle" ∧ yX9_step.cls ≠ "java/lang/invoke/VarHandle" ∧ (parseMethodDescriptor yX9_step.desc).map (fun d => d.parameters.length) = some 3 := by decide +kernel
set_option maxHeartbeats 4000000 in
set_option maxRecDepth 100000 in
theorem lw_case_25 {p : Program} {l : Launch} {e : Env} {s : State} {m : MethodId} {below : List Frame} {meth : Method} {c : Code} {dC : Nat → ClassId} {dI : Nat → Nat → Nat} {b L : Nat} {xs : Nat → Int32} (C0 : lw_At p s m meth c b L xs) (ts ks kv : Nat → Nat) (sa : Nat) (hE : q_S ts ks kv (fun q : Nat => s.heap.size ≤ q) s) (hEX : q_X sa s) (hlt : l.stackTraces = false) {a : Nat → Nat} {k : Nat → ClassId} {bm : Nat → Nat} {km : Nat → ClassId} {q3 : Nat} {k3 : ClassId} {j : Nat} (hj : 6 * j + 6 ≤ L) (hL : L ≤ 3072) {z : Nat → Int32} (hz : ∀ q, z q = xs (6 * j + q)) {x y : XS} {p1 p2 : Int32 × XS} (h1 : SX_25 x z = some p1) (h2 : SY_25 y z = some p2) {fo : Nat → Int64} {H : Heap} {locs : List Loc} {ls : Array Slot} (hK : va_K (dC, dI) vwCl (lw_T k km k3) s) (hP : va_P (dC, dI) vwCl (lw_W a k bm km q3 k3 x y fo) H) (hD : va_D (fun q : Nat => s.heap.size ≤ q) (lw_W a k bm km q3 k3 x y fo)) (hS : va_S (fun q : Nat => s.heap.size ≤ q) s.heap H locs) (hl : lv_has ls 7 [(4, .int (nI (6 * j))), (3, .ref q3), (2, .ref (bm 0)), (1, .ref (a 0)), (0, .ref b)]) (kont : ∀ (fo : Nat → Int64) (H : Heap) (locs : List Loc) (ls : Array Slot), va_P (dC, dI) vwCl (lw_W a k bm km q3 k3 p1.2 p2.2 fo) H → va_D (fun q : Nat => s.heap.size ≤ q) (lw_W a k bm km q3 k3 p1.2 p2.2 fo) → va_S (fun q : Nat => s.heap.size ≤ q) s.heap H locs → lv_has ls 7 [(4, .int (nI (6 * j))), (3, .ref q3), (2, .ref (bm 0)), (1, .ref (a 0)), (0, .ref b)] → W p l e room_1 s m #[Value.ref b] below meth c H locs (45 + j + 1) (18169 + 6 * j + 6) (lw_Z below #[Value.ref b] s) (F0 m 1344 ls [])) : W p l e room_1 s m #[Value.ref b] below meth c H locs (45 + j) (18169 + 6 * j) (lw_Z below #[Value.ref b] s) (F0 m 1032 ls []) := by
  obtain ⟨hx, hb, hr, hml, hown, hts, hX, hbl, hlocks, hgv⟩ := C0
  have hown : s.vm.findClass RL = some m.cls := hown
  have hA : ∀ q : Nat, s.heap.size ≤ q → (fun q : Nat => s.heap.size ≤ q) q := fun _ h => h
  have hbA : ¬ (fun q : Nat => s.heap.size ≤ q) b := Nat.not_le.mpr hbl
  unfold SX_25 at h1
  unfold SY_25 at h2
  obtain ⟨o1, hF1, h1⟩ := q_bi h1
  have hp1 := Option.some.inj h1
  obtain ⟨o2, hF2, h2⟩ := q_bi h2
  have hp2 := Option.some.inj h2
  refine lv_aload_n hx hb dL_law_1032 rfl (lv_at hl 3 rfl) ?_
  have qxa2 : p1.2.1 2 = x.1 2 := by rw [← hp1]; try rfl
  have qxa5 : p1.2.1 5 = x.1 5 := by rw [← hp1]; try rfl
  have qxa6 : p1.2.1 6 = x.1 6 := by rw [← hp1]; try rfl
  have qxa8 : p1.2.1 8 = x.1 8 := by rw [← hp1]; try rfl
  have qxa9 : p1.2.1 9 = x.1 9 := by rw [← hp1]; try rfl
  have qxa11 : p1.2.1 11 = x.1 11 := by rw [← hp1]; try rfl
  have qxa12 : p1.2.1 12 = x.1 12 := by rw [← hp1]; try rfl
  have qxa13 : p1.2.1 13 = x.1 13 := by rw [← hp1]; try rfl
  have qxa15 : p1.2.1 15 = x.1 15 := by rw [← hp1]; try rfl
  have qxa17 : p1.2.1 17 = o1.2 := by rw [← hp1]; try rfl
  have qxa20 : p1.2.1 20 = x.1 20 := by rw [← hp1]; try rfl
  have qxa22 : p1.2.1 22 = x.1 22 := by rw [← hp1]; try rfl
  have qxa24 : p1.2.1 24 = x.1 24 := by rw [← hp1]; try rfl
  have qxa26 : p1.2.1 26 = x.1 26 := by rw [← hp1]; try rfl
  have qxa28 : p1.2.1 28 = x.1 28 := by rw [← hp1]; try rfl
  have qxi0 : p1.2.2.1 0 = x.2.1 0 := by rw [← hp1]; try rfl
  have qxi1 : p1.2.2.1 1 = x.2.1 1 := by rw [← hp1]; try rfl
  have qxi2 : p1.2.2.1 2 = x.2.1 2 := by rw [← hp1]; try rfl
  have qxi3 : p1.2.2.1 3 = x.2.1 3 := by rw [← hp1]; try rfl
  have qxi4 : p1.2.2.1 4 = x.2.1 4 := by rw [← hp1]; try rfl
  have qxi5 : p1.2.2.1 5 = x.2.1 5 := by rw [← hp1]; try rfl
  have qxi6 : p1.2.2.1 6 = x.2.1 6 := by rw [← hp1]; try rfl
  have qxi7 : p1.2.2.1 7 = x.2.1 7 := by rw [← hp1]; try rfl
  have qxi8 : p1.2.2.1 8 = x.2.1 8 := by rw [← hp1]; try rfl
  have qxi9 : p1.2.2.1 9 = x.2.1 9 := by rw [← hp1]; try rfl
  have qxi10 : p1.2.2.1 10 = x.2.1 10 := by rw [← hp1]; try rfl
  have qxi11 : p1.2.2.1 11 = x.2.1 11 := by rw [← hp1]; try rfl
  have qxl : p1.2.2.2 = x.2.2 := by rw [← hp1]; try rfl
  refine q_goi5 (v := o1.1) (lw_W a k bm km q3 k3 p1.2 y fo) [some 0, none, none, none, none, none, none, some 4, some 5, some 6, none, none, none, none, some 2, some 3, some 7, some 8, some 1, none, none, none, none, none, none, none, none, none, none, none, none, none, none, none, none, none, none, none, none, none, none, none, none, none, none] (va_runV (As := []) (rest := []) ⟨hx, hb, hml, hown, hts⟩ (c_X9_last l dC dI a k (x.2.1 4) (x.2.1 11) (x.1 8) (x.1 9) (x.1 15) (x.1 17) (va_A [((a 0), .inr (9, [.ref (a 1), .ref (a 3), .ref (a 4), .ref (a 7), .ref (a 10), .ref (a 14), .ref (a 16), .ref (a 18), .ref (a 19), .ref (a 21), .ref (a 23), .ref (a 25), .ref (a 27), .ref (a 28), .int (x.2.1 11)])), ((a 18), .inr (3, [.ref (a 14), .ref (a 16)])), ((a 14), .inr (0, [.ref (a 15), .ref (a 7)])), ((a 15), .inl ((k 15), 98, .inl (x.1 15))), ((a 7), .inr (5, [.ref (a 8), .ref (a 9), .int (x.2.1 4)])), ((a 8), .inl ((k 8), 8, .inl (x.1 8))), ((a 9), .inl ((k 9), 48, .inl (x.1 9))), ((a 16), .inr (0, [.ref (a 17), .ref (a 7)])), ((a 17), .inl ((k 17), 98, .inl (x.1 17)))] H.size) o1 hF1) (cwV 0 hts (q_lV m_1216 m_1217 m_1218 m_2 m_1219) rfl rfl rfl hdV_yX9_last_0 ⟨Nat.le_of_ble_eq_true rfl, Nat.le_of_ble_eq_true rfl⟩) (q_preWV hK hP hD (q := (RX9, TX9, 15)) (ci := 9) (q0 := 0) rfl rfl [0, 18, 14, 15, 7, 8, 9, 16, 17] (by decide) rfl rfl [8, 3, 4, 9] rfl) rfl rfl hl.1 rfl (lv_room (Nat.le_of_ble_eq_true rfl)) dL_law_1033 ⟨by show 45 + j + 0 ≤ 1070; omega, by show 18169 + 6 * j + 0 ≤ 26367; omega⟩) hP hD hS hA [0, 18, 14, 15, 7, 8, 9, 16, 17] rfl (by unfold lw_W; simp only [qxa2, qxa5, qxa6, qxa8, qxa9, qxa11, qxa12, qxa13, qxa15, qxa17, qxa20, qxa22, qxa24, qxa26, qxa28, qxi0, qxi1, qxi2, qxi3, qxi4, qxi5, qxi6, qxi7, qxi8, qxi9, qxi10, qxi11, qxl]; rfl) rfl (by decide) (fun H locs hP hD hS => ?_)
  refine lv_pop hx hb dL_law_1036 rfl ?_
  refine lv_aload_n hx hb dL_law_1037 rfl (lv_at hl 2 rfl) ?_
  have qya1 : p2.2.1 1 = y.1 1 := by rw [← hp2]; try rfl
  have qya2 : p2.2.1 2 = y.1 2 := by rw [← hp2]; try rfl
  have qya3 : p2.2.1 3 = y.1 3 := by rw [← hp2]; try rfl
  have qya4 : p2.2.1 4 = y.1 4 := by rw [← hp2]; try rfl
  have qya5 : p2.2.1 5 = y.1 5 := by rw [← hp2]; try rfl
  have qya6 : p2.2.1 6 = y.1 6 := by rw [← hp2]; try rfl
  have qya7 : p2.2.1 7 = y.1 7 := by rw [← hp2]; try rfl
  have qya8 : p2.2.1 8 = o2.2.1 := by rw [← hp2]; try rfl
  have qya9 : p2.2.1 9 = y.1 9 := by rw [← hp2]; try rfl
  have qya10 : p2.2.1 10 = y.1 10 := by rw [← hp2]; try rfl
  have qya11 : p2.2.1 11 = o2.2.2.1 := by rw [← hp2]; try rfl
  have qya12 : p2.2.1 12 = o2.2.2.2 := by rw [← hp2]; try rfl
  have qya13 : p2.2.1 13 = y.1 13 := by rw [← hp2]; try rfl
  have qya14 : p2.2.1 14 = y.1 14 := by rw [← hp2]; try rfl
  have qyi0 : p2.2.2.1 0 = y.2.1 0 := by rw [← hp2]; try rfl
  have qyi1 : p2.2.2.1 1 = y.2.1 1 := by rw [← hp2]; try rfl
  have qyi2 : p2.2.2.1 2 = y.2.1 2 := by rw [← hp2]; try rfl
  have qyi3 : p2.2.2.1 3 = y.2.1 3 := by rw [← hp2]; try rfl
  have qyi4 : p2.2.2.1 4 = y.2.1 4 := by rw [← hp2]; try rfl
  have qyi5 : p2.2.2.1 5 = y.2.1 5 := by rw [← hp2]; try rfl
  have qyi6 : p2.2.2.1 6 = y.2.1 6 := by rw [← hp2]; try rfl
  have qyi7 : p2.2.2.1 7 = y.2.1 7 := by rw [← hp2]; try rfl
  have qyi8 : p2.2.2.1 8 = y.2.1 8 := by rw [← hp2]; try rfl
  have qyl : p2.2.2.2 = y.2.2 := by rw [← hp2]; try rfl
  refine q_goi5 (v := o2.1) (lw_W a k bm km q3 k3 p1.2 p2.2 fo) [none, none, none, none, none, none, none, none, none, none, none, none, none, none, none, none, none, none, none, none, none, none, none, none, none, none, none, none, none, some 0, none, none, none, some 1, some 2, none, none, some 3, none, none, some 4, some 5, none, none, none] (va_runV (As := []) (rest := []) ⟨hx, hb, hml, hown, hts⟩ (c_X10_last l dC dI bm km (y.2.1 0) (y.2.1 1) (y.2.1 2) (y.2.1 3) (y.2.1 4) (y.2.1 5) (y.2.1 6) (y.2.1 7) (y.2.1 8) (y.2.2) (y.1 4) (y.1 5) (y.1 8) (y.1 11) (y.1 12) (va_A [((bm 0), .inr (10, [.int (y.2.1 0), .ref (bm 1), .int (y.2.1 1), .int (y.2.1 2), .int (y.2.1 3), .ref (bm 2), .ref (bm 3), .int (y.2.1 4), .ref (bm 4), .ref (bm 5), .int (y.2.1 5), .ref (bm 6), .ref (bm 7), .int (y.2.1 6), .ref (bm 8), .ref (bm 9), .ref (bm 10), .int (y.2.1 7), .long (y.2.2), .ref (bm 11), .ref (bm 12), .ref (bm 13), .ref (bm 14), .int (y.2.1 8)])), ((bm 4), .inl ((km 4), 8, .inl (y.1 4))), ((bm 5), .inl ((km 5), 48, .inl (y.1 5))), ((bm 8), .inl ((km 8), 279, .inl (y.1 8))), ((bm 11), .inl ((km 11), 98, .inl (y.1 11))), ((bm 12), .inl ((km 12), 98, .inl (y.1 12)))] H.size) o2 hF2) (cwV 0 hts (q_lV m_1224 m_1225 m_1226 m_5 m_1227) rfl rfl rfl hdV_yX10_last_0 ⟨Nat.le_of_ble_eq_true rfl, Nat.le_of_ble_eq_true rfl⟩) (q_preWV hK hP hD (q := (RX10, TX10, 24)) (ci := 10) (q0 := 29) rfl rfl [29, 33, 34, 37, 40, 41] (by decide) rfl rfl [18, 19, 22, 25, 26] rfl) rfl rfl hl.1 rfl (lv_room (Nat.le_of_ble_eq_true rfl)) dL_law_1038 ⟨by show 45 + j + 0 ≤ 1070; omega, by show 18169 + 6 * j + 0 ≤ 26367; omega⟩) hP hD hS hA [29, 33, 34, 37, 40, 41] rfl (by unfold lw_W; simp only [qya1, qya2, qya3, qya4, qya5, qya6, qya7, qya8, qya9, qya10, qya11, qya12, qya13, qya14, qyi0, qyi1, qyi2, qyi3, qyi4, qyi5, qyi6, qyi7, qyi8, qyl]; rfl) rfl (by decide) (fun H locs hP hD hS => ?_)
  refine lv_pop hx hb dL_law_1041 rfl ?_
  refine lv_goto (tgt := 1344) hx hb dL_law_1042 (by decide) ?_
  refine W.widen (k := 45 + j + 1) (n := 18169 + 6 * j + 6) (by omega) (by omega) ?_
  exact kont _ H locs ls hP hD hS (lv_sub hl [0, 1, 2, 3, 4] rfl)

set_option maxHeartbeats 4000000 in
set_option maxRecDepth 100000 in
theorem lw_case_26 {p : Program} {l : Launch} {e : Env} {s : State} {m : MethodId} {below : List Frame} {meth : Method} {c : Code} {dC : Nat → ClassId} {dI : Nat → Nat → Nat} {b L : Nat} {xs : Nat → Int32} (C0 : lw_At p s m meth c b L xs) (ts ks kv : Nat → Nat) (sa : Nat) (hE : q_S ts ks kv (fun q : Nat => s.heap.size ≤ q) s) (hEX : q_X sa s) (hlt : l.stackTraces = false) {a : Nat → Nat} {k : Nat → ClassId} {bm : Nat → Nat} {km : Nat → ClassId} {q3 : Nat} {k3 : ClassId} {j : Nat} (hj : 6 * j + 6 ≤ L) (hL : L ≤ 3072) {z : Nat → Int32} (hz : ∀ q, z q = xs (6 * j + q)) {x y : XS} {p1 p2 : Int32 × XS} (h1 : SX_26 x z = some p1) (h2 : SY_26 y z = some p2) {fo : Nat → Int64} {H : Heap} {locs : List Loc} {ls : Array Slot} (hK : va_K (dC, dI) vwCl (lw_T k km k3) s) (hP : va_P (dC, dI) vwCl (lw_W a k bm km q3 k3 x y fo) H) (hD : va_D (fun q : Nat => s.heap.size ≤ q) (lw_W a k bm km q3 k3 x y fo)) (hS : va_S (fun q : Nat => s.heap.size ≤ q) s.heap H locs) (hl : lv_has ls 7 [(4, .int (nI (6 * j))), (3, .ref q3), (2, .ref (bm 0)), (1, .ref (a 0)), (0, .ref b)]) (kont : ∀ (fo : Nat → Int64) (H : Heap) (locs : List Loc) (ls : Array Slot), va_P (dC, dI) vwCl (lw_W a k bm km q3 k3 p1.2 p2.2 fo) H → va_D (fun q : Nat => s.heap.size ≤ q) (lw_W a k bm km q3 k3 p1.2 p2.2 fo) → va_S (fun q : Nat => s.heap.size ≤ q) s.heap H locs → lv_has ls 7 [(4, .int (nI (6 * j))), (3, .ref q3), (2, .ref (bm 0)), (1, .ref (a 0)), (0, .ref b)] → W p l e room_1 s m #[Value.ref b] below meth c H locs (45 + j + 1) (18169 + 6 * j + 6) (lw_Z below #[Value.ref b] s) (F0 m 1344 ls [])) : W p l e room_1 s m #[Value.ref b] below meth c H locs (45 + j) (18169 + 6 * j) (lw_Z below #[Value.ref b] s) (F0 m 1045 ls []) := by
  obtain ⟨hx, hb, hr, hml, hown, hts, hX, hbl, hlocks, hgv⟩ := C0
  have hown : s.vm.findClass RL = some m.cls := hown
  have hA : ∀ q : Nat, s.heap.size ≤ q → (fun q : Nat => s.heap.size ≤ q) q := fun _ h => h
  have hbA : ¬ (fun q : Nat => s.heap.size ≤ q) b := Nat.not_le.mpr hbl
  unfold SX_26 at h1
  unfold SY_26 at h2
  obtain ⟨o1, hF1, h1⟩ := q_bi h1
  have hp1 := Option.some.inj h1
  obtain ⟨o2, hF2, h2⟩ := q_bi h2
  have hp2 := Option.some.inj h2
  refine lv_aload_n hx hb dL_law_1045 rfl (lv_at hl 3 rfl) ?_
  refine lv_aload_n hx hb dL_law_1046 rfl (lv_at hl 4 rfl) ?_
  refine lv_iload hx hb dL_law_1047 (lv_at hl 0 rfl) ?_
  refine lv_iconst (v := 1) hx hb dL_law_1049 (by decide) ?_
  refine lv_iadd hx hb dL_law_1050 ?_
  refine q_top (y := nI (6 * j + 1)) (nI_add (6 * j) 1) ?_
  refine va_sld hx hb hX hbl hbA hS (i := (nI (6 * j + 1))) (vp_in_nI (by omega) (by omega)) dL_law_1051 ?_
  refine q_top (y := z 1) (by rw [nI_clamp (by omega), hz]) ?_
  have qxa2 : p1.2.1 2 = x.1 2 := by rw [← hp1]; try rfl
  have qxa5 : p1.2.1 5 = x.1 5 := by rw [← hp1]; try rfl
  have qxa6 : p1.2.1 6 = x.1 6 := by rw [← hp1]; try rfl
  have qxa8 : p1.2.1 8 = x.1 8 := by rw [← hp1]; try rfl
  have qxa9 : p1.2.1 9 = x.1 9 := by rw [← hp1]; try rfl
  have qxa11 : p1.2.1 11 = x.1 11 := by rw [← hp1]; try rfl
  have qxa12 : p1.2.1 12 = x.1 12 := by rw [← hp1]; try rfl
  have qxa13 : p1.2.1 13 = x.1 13 := by rw [← hp1]; try rfl
  have qxa15 : p1.2.1 15 = x.1 15 := by rw [← hp1]; try rfl
  have qxa17 : p1.2.1 17 = o1.2 := by rw [← hp1]; try rfl
  have qxa20 : p1.2.1 20 = x.1 20 := by rw [← hp1]; try rfl
  have qxa22 : p1.2.1 22 = x.1 22 := by rw [← hp1]; try rfl
  have qxa24 : p1.2.1 24 = x.1 24 := by rw [← hp1]; try rfl
  have qxa26 : p1.2.1 26 = x.1 26 := by rw [← hp1]; try rfl
  have qxa28 : p1.2.1 28 = x.1 28 := by rw [← hp1]; try rfl
  have qxi0 : p1.2.2.1 0 = x.2.1 0 := by rw [← hp1]; try rfl
  have qxi1 : p1.2.2.1 1 = x.2.1 1 := by rw [← hp1]; try rfl
  have qxi2 : p1.2.2.1 2 = x.2.1 2 := by rw [← hp1]; try rfl
  have qxi3 : p1.2.2.1 3 = x.2.1 3 := by rw [← hp1]; try rfl
  have qxi4 : p1.2.2.1 4 = x.2.1 4 := by rw [← hp1]; try rfl
  have qxi5 : p1.2.2.1 5 = x.2.1 5 := by rw [← hp1]; try rfl
  have qxi6 : p1.2.2.1 6 = x.2.1 6 := by rw [← hp1]; try rfl
  have qxi7 : p1.2.2.1 7 = x.2.1 7 := by rw [← hp1]; try rfl
  have qxi8 : p1.2.2.1 8 = x.2.1 8 := by rw [← hp1]; try rfl
  have qxi9 : p1.2.2.1 9 = x.2.1 9 := by rw [← hp1]; try rfl
  have qxi10 : p1.2.2.1 10 = x.2.1 10 := by rw [← hp1]; try rfl
  have qxi11 : p1.2.2.1 11 = x.2.1 11 := by rw [← hp1]; try rfl
  have qxl : p1.2.2.2 = x.2.2 := by rw [← hp1]; try rfl
  refine q_goi5 (v := o1.1) (lw_W a k bm km q3 k3 p1.2 y fo) [some 0, none, none, none, none, none, none, some 4, some 5, some 6, none, none, none, none, some 2, some 3, some 7, some 8, some 1, none, none, none, none, none, none, none, none, none, none, none, none, none, none, none, none, none, none, none, none, none, none, none, none, none, none] (va_runV (As := [.int (z 1)]) (rest := []) ⟨hx, hb, hml, hown, hts⟩ (c_X9_place l dC dI a k (x.2.1 4) (x.2.1 11) (x.1 8) (x.1 9) (x.1 15) (x.1 17) (z 1) (va_A [((a 0), .inr (9, [.ref (a 1), .ref (a 3), .ref (a 4), .ref (a 7), .ref (a 10), .ref (a 14), .ref (a 16), .ref (a 18), .ref (a 19), .ref (a 21), .ref (a 23), .ref (a 25), .ref (a 27), .ref (a 28), .int (x.2.1 11)])), ((a 18), .inr (3, [.ref (a 14), .ref (a 16)])), ((a 14), .inr (0, [.ref (a 15), .ref (a 7)])), ((a 15), .inl ((k 15), 98, .inl (x.1 15))), ((a 7), .inr (5, [.ref (a 8), .ref (a 9), .int (x.2.1 4)])), ((a 8), .inl ((k 8), 8, .inl (x.1 8))), ((a 9), .inl ((k 9), 48, .inl (x.1 9))), ((a 16), .inr (0, [.ref (a 17), .ref (a 7)])), ((a 17), .inl ((k 17), 98, .inl (x.1 17)))] H.size) o1 hF1) (cwV 1 hts (q_lV m_1232 m_1233 m_1234 m_2 m_1235) rfl rfl rfl hdV_yX9_place_1 ⟨Nat.le_of_ble_eq_true rfl, Nat.le_of_ble_eq_true rfl⟩) (q_preWV hK hP hD (q := (RX9, TX9, 15)) (ci := 9) (q0 := 0) rfl rfl [0, 18, 14, 15, 7, 8, 9, 16, 17] (by decide) rfl rfl [8, 3, 4, 9] rfl) rfl rfl hl.1 rfl (lv_room (Nat.le_of_ble_eq_true rfl)) dL_law_1052 ⟨by show 45 + j + 0 ≤ 1070; omega, by show 18169 + 6 * j + 0 ≤ 26367; omega⟩) hP hD hS hA [0, 18, 14, 15, 7, 8, 9, 16, 17] rfl (by unfold lw_W; simp only [qxa2, qxa5, qxa6, qxa8, qxa9, qxa11, qxa12, qxa13, qxa15, qxa17, qxa20, qxa22, qxa24, qxa26, qxa28, qxi0, qxi1, qxi2, qxi3, qxi4, qxi5, qxi6, qxi7, qxi8, qxi9, qxi10, qxi11, qxl]; rfl) rfl (by decide) (fun H locs hP hD hS => ?_)
  refine lv_pop hx hb dL_law_1055 rfl ?_
  refine lv_aload_n hx hb dL_law_1056 rfl (lv_at hl 2 rfl) ?_
  refine lv_aload_n hx hb dL_law_1057 rfl (lv_at hl 4 rfl) ?_
  refine lv_iload hx hb dL_law_1058 (lv_at hl 0 rfl) ?_
  refine lv_iconst (v := 1) hx hb dL_law_1060 (by decide) ?_
  refine lv_iadd hx hb dL_law_1061 ?_
  refine q_top (y := nI (6 * j + 1)) (nI_add (6 * j) 1) ?_
  refine va_sld hx hb hX hbl hbA hS (i := (nI (6 * j + 1))) (vp_in_nI (by omega) (by omega)) dL_law_1062 ?_
  refine q_top (y := z 1) (by rw [nI_clamp (by omega), hz]) ?_
  have qya1 : p2.2.1 1 = y.1 1 := by rw [← hp2]; try rfl
  have qya2 : p2.2.1 2 = y.1 2 := by rw [← hp2]; try rfl
  have qya3 : p2.2.1 3 = y.1 3 := by rw [← hp2]; try rfl
  have qya4 : p2.2.1 4 = y.1 4 := by rw [← hp2]; try rfl
  have qya5 : p2.2.1 5 = y.1 5 := by rw [← hp2]; try rfl
  have qya6 : p2.2.1 6 = y.1 6 := by rw [← hp2]; try rfl
  have qya7 : p2.2.1 7 = y.1 7 := by rw [← hp2]; try rfl
  have qya8 : p2.2.1 8 = o2.2.1 := by rw [← hp2]; try rfl
  have qya9 : p2.2.1 9 = y.1 9 := by rw [← hp2]; try rfl
  have qya10 : p2.2.1 10 = y.1 10 := by rw [← hp2]; try rfl
  have qya11 : p2.2.1 11 = o2.2.2 := by rw [← hp2]; try rfl
  have qya12 : p2.2.1 12 = y.1 12 := by rw [← hp2]; try rfl
  have qya13 : p2.2.1 13 = y.1 13 := by rw [← hp2]; try rfl
  have qya14 : p2.2.1 14 = y.1 14 := by rw [← hp2]; try rfl
  have qyi0 : p2.2.2.1 0 = y.2.1 0 := by rw [← hp2]; try rfl
  have qyi1 : p2.2.2.1 1 = y.2.1 1 := by rw [← hp2]; try rfl
  have qyi2 : p2.2.2.1 2 = y.2.1 2 := by rw [← hp2]; try rfl
  have qyi3 : p2.2.2.1 3 = y.2.1 3 := by rw [← hp2]; try rfl
  have qyi4 : p2.2.2.1 4 = y.2.1 4 := by rw [← hp2]; try rfl
  have qyi5 : p2.2.2.1 5 = y.2.1 5 := by rw [← hp2]; try rfl
  have qyi6 : p2.2.2.1 6 = y.2.1 6 := by rw [← hp2]; try rfl
  have qyi7 : p2.2.2.1 7 = y.2.1 7 := by rw [← hp2]; try rfl
  have qyi8 : p2.2.2.1 8 = y.2.1 8 := by rw [← hp2]; try rfl
  have qyl : p2.2.2.2 = y.2.2 := by rw [← hp2]; try rfl
  refine q_goi5 (v := o2.1) (lw_W a k bm km q3 k3 p1.2 p2.2 fo) [none, none, none, none, none, none, none, none, none, none, none, none, none, none, none, none, none, none, none, none, none, none, none, none, none, none, none, none, none, some 0, none, none, none, some 1, some 2, none, none, some 3, none, none, some 4, none, none, none, none] (va_runV (As := [.int (z 1)]) (rest := []) ⟨hx, hb, hml, hown, hts⟩ (c_X10_place l dC dI bm km (y.2.1 0) (y.2.1 1) (y.2.1 2) (y.2.1 3) (y.2.1 4) (y.2.1 5) (y.2.1 6) (y.2.1 7) (y.2.1 8) (y.2.2) (y.1 4) (y.1 5) (y.1 8) (y.1 11) (z 1) (va_A [((bm 0), .inr (10, [.int (y.2.1 0), .ref (bm 1), .int (y.2.1 1), .int (y.2.1 2), .int (y.2.1 3), .ref (bm 2), .ref (bm 3), .int (y.2.1 4), .ref (bm 4), .ref (bm 5), .int (y.2.1 5), .ref (bm 6), .ref (bm 7), .int (y.2.1 6), .ref (bm 8), .ref (bm 9), .ref (bm 10), .int (y.2.1 7), .long (y.2.2), .ref (bm 11), .ref (bm 12), .ref (bm 13), .ref (bm 14), .int (y.2.1 8)])), ((bm 4), .inl ((km 4), 8, .inl (y.1 4))), ((bm 5), .inl ((km 5), 48, .inl (y.1 5))), ((bm 8), .inl ((km 8), 279, .inl (y.1 8))), ((bm 11), .inl ((km 11), 98, .inl (y.1 11)))] H.size) o2 hF2) (cwV 1 hts (q_lV m_1246 m_1247 m_1248 m_5 m_1249) rfl rfl rfl hdV_yX10_place_1 ⟨Nat.le_of_ble_eq_true rfl, Nat.le_of_ble_eq_true rfl⟩) (q_preWV hK hP hD (q := (RX10, TX10, 24)) (ci := 10) (q0 := 29) rfl rfl [29, 33, 34, 37, 40] (by decide) rfl rfl [18, 19, 22, 25] rfl) rfl rfl hl.1 rfl (lv_room (Nat.le_of_ble_eq_true rfl)) dL_law_1063 ⟨by show 45 + j + 0 ≤ 1070; omega, by show 18169 + 6 * j + 0 ≤ 26367; omega⟩) hP hD hS hA [29, 33, 34, 37, 40] rfl (by unfold lw_W; simp only [qya1, qya2, qya3, qya4, qya5, qya6, qya7, qya8, qya9, qya10, qya11, qya12, qya13, qya14, qyi0, qyi1, qyi2, qyi3, qyi4, qyi5, qyi6, qyi7, qyi8, qyl]; rfl) rfl (by decide) (fun H locs hP hD hS => ?_)
  refine lv_pop hx hb dL_law_1066 rfl ?_
  refine lv_goto (tgt := 1344) hx hb dL_law_1067 (by decide) ?_
  refine W.widen (k := 45 + j + 1) (n := 18169 + 6 * j + 6) (by omega) (by omega) ?_
  exact kont _ H locs ls hP hD hS (lv_sub hl [0, 1, 2, 3, 4] rfl)

set_option maxHeartbeats 4000000 in
set_option maxRecDepth 100000 in
theorem lw_case_27 {p : Program} {l : Launch} {e : Env} {s : State} {m : MethodId} {below : List Frame} {meth : Method} {c : Code} {dC : Nat → ClassId} {dI : Nat → Nat → Nat} {b L : Nat} {xs : Nat → Int32} (C0 : lw_At p s m meth c b L xs) (ts ks kv : Nat → Nat) (sa : Nat) (hE : q_S ts ks kv (fun q : Nat => s.heap.size ≤ q) s) (hEX : q_X sa s) (hlt : l.stackTraces = false) {a : Nat → Nat} {k : Nat → ClassId} {bm : Nat → Nat} {km : Nat → ClassId} {q3 : Nat} {k3 : ClassId} {j : Nat} (hj : 6 * j + 6 ≤ L) (hL : L ≤ 3072) {z : Nat → Int32} (hz : ∀ q, z q = xs (6 * j + q)) {x y : XS} {p1 p2 : Int32 × XS} (h1 : SX_27 x z = some p1) (h2 : SY_27 y z = some p2) {fo : Nat → Int64} {H : Heap} {locs : List Loc} {ls : Array Slot} (hK : va_K (dC, dI) vwCl (lw_T k km k3) s) (hP : va_P (dC, dI) vwCl (lw_W a k bm km q3 k3 x y fo) H) (hD : va_D (fun q : Nat => s.heap.size ≤ q) (lw_W a k bm km q3 k3 x y fo)) (hS : va_S (fun q : Nat => s.heap.size ≤ q) s.heap H locs) (hl : lv_has ls 7 [(4, .int (nI (6 * j))), (3, .ref q3), (2, .ref (bm 0)), (1, .ref (a 0)), (0, .ref b)]) (kont : ∀ (fo : Nat → Int64) (H : Heap) (locs : List Loc) (ls : Array Slot), va_P (dC, dI) vwCl (lw_W a k bm km q3 k3 p1.2 p2.2 fo) H → va_D (fun q : Nat => s.heap.size ≤ q) (lw_W a k bm km q3 k3 p1.2 p2.2 fo) → va_S (fun q : Nat => s.heap.size ≤ q) s.heap H locs → lv_has ls 7 [(4, .int (nI (6 * j))), (3, .ref q3), (2, .ref (bm 0)), (1, .ref (a 0)), (0, .ref b)] → W p l e room_1 s m #[Value.ref b] below meth c H locs (45 + j + 1) (18169 + 6 * j + 6) (lw_Z below #[Value.ref b] s) (F0 m 1344 ls [])) : W p l e room_1 s m #[Value.ref b] below meth c H locs (45 + j) (18169 + 6 * j) (lw_Z below #[Value.ref b] s) (F0 m 1070 ls []) := by
  obtain ⟨hx, hb, hr, hml, hown, hts, hX, hbl, hlocks, hgv⟩ := C0
  have hown : s.vm.findClass RL = some m.cls := hown
  have hA : ∀ q : Nat, s.heap.size ≤ q → (fun q : Nat => s.heap.size ≤ q) q := fun _ h => h
  have hbA : ¬ (fun q : Nat => s.heap.size ≤ q) b := Nat.not_le.mpr hbl
  unfold SX_27 at h1
  unfold SY_27 at h2
  obtain ⟨o1, hF1, h1⟩ := q_bi h1
  have hp1 := Option.some.inj h1
  obtain ⟨o2, hF2, h2⟩ := q_bi h2
  have hp2 := Option.some.inj h2
  refine lv_aload_n hx hb dL_law_1070 rfl (lv_at hl 3 rfl) ?_
  refine lv_aload_n hx hb dL_law_1071 rfl (lv_at hl 4 rfl) ?_
  refine lv_iload hx hb dL_law_1072 (lv_at hl 0 rfl) ?_
  refine lv_iconst (v := 1) hx hb dL_law_1074 (by decide) ?_
  refine lv_iadd hx hb dL_law_1075 ?_
  refine q_top (y := nI (6 * j + 1)) (nI_add (6 * j) 1) ?_
  refine va_sld hx hb hX hbl hbA hS (i := (nI (6 * j + 1))) (vp_in_nI (by omega) (by omega)) dL_law_1076 ?_
  refine q_top (y := z 1) (by rw [nI_clamp (by omega), hz]) ?_
  have qxa2 : p1.2.1 2 = x.1 2 := by rw [← hp1]; try rfl
  have qxa5 : p1.2.1 5 = x.1 5 := by rw [← hp1]; try rfl
  have qxa6 : p1.2.1 6 = x.1 6 := by rw [← hp1]; try rfl
  have qxa8 : p1.2.1 8 = x.1 8 := by rw [← hp1]; try rfl
  have qxa9 : p1.2.1 9 = x.1 9 := by rw [← hp1]; try rfl
  have qxa11 : p1.2.1 11 = x.1 11 := by rw [← hp1]; try rfl
  have qxa12 : p1.2.1 12 = x.1 12 := by rw [← hp1]; try rfl
  have qxa13 : p1.2.1 13 = x.1 13 := by rw [← hp1]; try rfl
  have qxa15 : p1.2.1 15 = x.1 15 := by rw [← hp1]; try rfl
  have qxa17 : p1.2.1 17 = o1.2 := by rw [← hp1]; try rfl
  have qxa20 : p1.2.1 20 = x.1 20 := by rw [← hp1]; try rfl
  have qxa22 : p1.2.1 22 = x.1 22 := by rw [← hp1]; try rfl
  have qxa24 : p1.2.1 24 = x.1 24 := by rw [← hp1]; try rfl
  have qxa26 : p1.2.1 26 = x.1 26 := by rw [← hp1]; try rfl
  have qxa28 : p1.2.1 28 = x.1 28 := by rw [← hp1]; try rfl
  have qxi0 : p1.2.2.1 0 = x.2.1 0 := by rw [← hp1]; try rfl
  have qxi1 : p1.2.2.1 1 = x.2.1 1 := by rw [← hp1]; try rfl
  have qxi2 : p1.2.2.1 2 = x.2.1 2 := by rw [← hp1]; try rfl
  have qxi3 : p1.2.2.1 3 = x.2.1 3 := by rw [← hp1]; try rfl
  have qxi4 : p1.2.2.1 4 = x.2.1 4 := by rw [← hp1]; try rfl
  have qxi5 : p1.2.2.1 5 = x.2.1 5 := by rw [← hp1]; try rfl
  have qxi6 : p1.2.2.1 6 = x.2.1 6 := by rw [← hp1]; try rfl
  have qxi7 : p1.2.2.1 7 = x.2.1 7 := by rw [← hp1]; try rfl
  have qxi8 : p1.2.2.1 8 = x.2.1 8 := by rw [← hp1]; try rfl
  have qxi9 : p1.2.2.1 9 = x.2.1 9 := by rw [← hp1]; try rfl
  have qxi10 : p1.2.2.1 10 = x.2.1 10 := by rw [← hp1]; try rfl
  have qxi11 : p1.2.2.1 11 = x.2.1 11 := by rw [← hp1]; try rfl
  have qxl : p1.2.2.2 = x.2.2 := by rw [← hp1]; try rfl
  refine q_goi5 (v := o1.1) (lw_W a k bm km q3 k3 p1.2 y fo) [some 0, none, none, none, none, none, none, some 4, some 5, some 6, none, none, none, none, some 2, some 3, some 7, some 8, some 1, none, none, none, none, none, none, none, none, none, none, none, none, none, none, none, none, none, none, none, none, none, none, none, none, none, none] (va_runV (As := [.int (z 1)]) (rest := []) ⟨hx, hb, hml, hown, hts⟩ (c_X9_order l dC dI a k (x.2.1 4) (x.2.1 11) (x.1 8) (x.1 9) (x.1 15) (x.1 17) (z 1) (va_A [((a 0), .inr (9, [.ref (a 1), .ref (a 3), .ref (a 4), .ref (a 7), .ref (a 10), .ref (a 14), .ref (a 16), .ref (a 18), .ref (a 19), .ref (a 21), .ref (a 23), .ref (a 25), .ref (a 27), .ref (a 28), .int (x.2.1 11)])), ((a 18), .inr (3, [.ref (a 14), .ref (a 16)])), ((a 14), .inr (0, [.ref (a 15), .ref (a 7)])), ((a 15), .inl ((k 15), 98, .inl (x.1 15))), ((a 7), .inr (5, [.ref (a 8), .ref (a 9), .int (x.2.1 4)])), ((a 8), .inl ((k 8), 8, .inl (x.1 8))), ((a 9), .inl ((k 9), 48, .inl (x.1 9))), ((a 16), .inr (0, [.ref (a 17), .ref (a 7)])), ((a 17), .inl ((k 17), 98, .inl (x.1 17)))] H.size) o1 hF1) (cwV 1 hts (q_lV m_1254 m_1255 m_1256 m_2 m_1257) rfl rfl rfl hdV_yX9_order_1 ⟨Nat.le_of_ble_eq_true rfl, Nat.le_of_ble_eq_true rfl⟩) (q_preWV hK hP hD (q := (RX9, TX9, 15)) (ci := 9) (q0 := 0) rfl rfl [0, 18, 14, 15, 7, 8, 9, 16, 17] (by decide) rfl rfl [8, 3, 4, 9] rfl) rfl rfl hl.1 rfl (lv_room (Nat.le_of_ble_eq_true rfl)) dL_law_1077 ⟨by show 45 + j + 0 ≤ 1070; omega, by show 18169 + 6 * j + 0 ≤ 26367; omega⟩) hP hD hS hA [0, 18, 14, 15, 7, 8, 9, 16, 17] rfl (by unfold lw_W; simp only [qxa2, qxa5, qxa6, qxa8, qxa9, qxa11, qxa12, qxa13, qxa15, qxa17, qxa20, qxa22, qxa24, qxa26, qxa28, qxi0, qxi1, qxi2, qxi3, qxi4, qxi5, qxi6, qxi7, qxi8, qxi9, qxi10, qxi11, qxl]; rfl) rfl (by decide) (fun H locs hP hD hS => ?_)
  refine lv_pop hx hb dL_law_1080 rfl ?_
  refine lv_aload_n hx hb dL_law_1081 rfl (lv_at hl 2 rfl) ?_
  refine lv_aload_n hx hb dL_law_1082 rfl (lv_at hl 4 rfl) ?_
  refine lv_iload hx hb dL_law_1083 (lv_at hl 0 rfl) ?_
  refine lv_iconst (v := 1) hx hb dL_law_1085 (by decide) ?_
  refine lv_iadd hx hb dL_law_1086 ?_
  refine q_top (y := nI (6 * j + 1)) (nI_add (6 * j) 1) ?_
  refine va_sld hx hb hX hbl hbA hS (i := (nI (6 * j + 1))) (vp_in_nI (by omega) (by omega)) dL_law_1087 ?_
  refine q_top (y := z 1) (by rw [nI_clamp (by omega), hz]) ?_
  have qya1 : p2.2.1 1 = y.1 1 := by rw [← hp2]; try rfl
  have qya2 : p2.2.1 2 = y.1 2 := by rw [← hp2]; try rfl
  have qya3 : p2.2.1 3 = y.1 3 := by rw [← hp2]; try rfl
  have qya4 : p2.2.1 4 = y.1 4 := by rw [← hp2]; try rfl
  have qya5 : p2.2.1 5 = y.1 5 := by rw [← hp2]; try rfl
  have qya6 : p2.2.1 6 = y.1 6 := by rw [← hp2]; try rfl
  have qya7 : p2.2.1 7 = y.1 7 := by rw [← hp2]; try rfl
  have qya8 : p2.2.1 8 = o2.2.1 := by rw [← hp2]; try rfl
  have qya9 : p2.2.1 9 = y.1 9 := by rw [← hp2]; try rfl
  have qya10 : p2.2.1 10 = y.1 10 := by rw [← hp2]; try rfl
  have qya11 : p2.2.1 11 = o2.2.2.1 := by rw [← hp2]; try rfl
  have qya12 : p2.2.1 12 = y.1 12 := by rw [← hp2]; try rfl
  have qya13 : p2.2.1 13 = o2.2.2.2 := by rw [← hp2]; try rfl
  have qya14 : p2.2.1 14 = y.1 14 := by rw [← hp2]; try rfl
  have qyi0 : p2.2.2.1 0 = y.2.1 0 := by rw [← hp2]; try rfl
  have qyi1 : p2.2.2.1 1 = y.2.1 1 := by rw [← hp2]; try rfl
  have qyi2 : p2.2.2.1 2 = y.2.1 2 := by rw [← hp2]; try rfl
  have qyi3 : p2.2.2.1 3 = y.2.1 3 := by rw [← hp2]; try rfl
  have qyi4 : p2.2.2.1 4 = y.2.1 4 := by rw [← hp2]; try rfl
  have qyi5 : p2.2.2.1 5 = y.2.1 5 := by rw [← hp2]; try rfl
  have qyi6 : p2.2.2.1 6 = y.2.1 6 := by rw [← hp2]; try rfl
  have qyi7 : p2.2.2.1 7 = y.2.1 7 := by rw [← hp2]; try rfl
  have qyi8 : p2.2.2.1 8 = y.2.1 8 := by rw [← hp2]; try rfl
  have qyl : p2.2.2.2 = y.2.2 := by rw [← hp2]; try rfl
  refine q_goi5 (v := o2.1) (lw_W a k bm km q3 k3 p1.2 p2.2 fo) [none, none, none, none, none, none, none, none, none, none, none, none, none, none, none, none, none, none, none, none, none, none, none, none, none, none, none, none, none, some 0, none, none, none, some 1, some 2, none, none, some 3, none, none, some 4, none, some 5, none, none] (va_runV (As := [.int (z 1)]) (rest := []) ⟨hx, hb, hml, hown, hts⟩ (c_X10_order l dC dI bm km (y.2.1 0) (y.2.1 1) (y.2.1 2) (y.2.1 3) (y.2.1 4) (y.2.1 5) (y.2.1 6) (y.2.1 7) (y.2.1 8) (y.2.2) (y.1 4) (y.1 5) (y.1 8) (y.1 11) (y.1 13) (z 1) (va_A [((bm 0), .inr (10, [.int (y.2.1 0), .ref (bm 1), .int (y.2.1 1), .int (y.2.1 2), .int (y.2.1 3), .ref (bm 2), .ref (bm 3), .int (y.2.1 4), .ref (bm 4), .ref (bm 5), .int (y.2.1 5), .ref (bm 6), .ref (bm 7), .int (y.2.1 6), .ref (bm 8), .ref (bm 9), .ref (bm 10), .int (y.2.1 7), .long (y.2.2), .ref (bm 11), .ref (bm 12), .ref (bm 13), .ref (bm 14), .int (y.2.1 8)])), ((bm 4), .inl ((km 4), 8, .inl (y.1 4))), ((bm 5), .inl ((km 5), 48, .inl (y.1 5))), ((bm 8), .inl ((km 8), 279, .inl (y.1 8))), ((bm 11), .inl ((km 11), 98, .inl (y.1 11))), ((bm 13), .inl ((km 13), 8, .inl (y.1 13)))] H.size) o2 hF2) (cwV 1 hts (q_lV m_1266 m_1267 m_1268 m_5 m_1269) rfl rfl rfl hdV_yX10_order_1 ⟨Nat.le_of_ble_eq_true rfl, Nat.le_of_ble_eq_true rfl⟩) (q_preWV hK hP hD (q := (RX10, TX10, 24)) (ci := 10) (q0 := 29) rfl rfl [29, 33, 34, 37, 40, 42] (by decide) rfl rfl [18, 19, 22, 25, 27] rfl) rfl rfl hl.1 rfl (lv_room (Nat.le_of_ble_eq_true rfl)) dL_law_1088 ⟨by show 45 + j + 0 ≤ 1070; omega, by show 18169 + 6 * j + 0 ≤ 26367; omega⟩) hP hD hS hA [29, 33, 34, 37, 40, 42] rfl (by unfold lw_W; simp only [qya1, qya2, qya3, qya4, qya5, qya6, qya7, qya8, qya9, qya10, qya11, qya12, qya13, qya14, qyi0, qyi1, qyi2, qyi3, qyi4, qyi5, qyi6, qyi7, qyi8, qyl]; rfl) rfl (by decide) (fun H locs hP hD hS => ?_)
  refine lv_pop hx hb dL_law_1091 rfl ?_
  refine lv_goto (tgt := 1344) hx hb dL_law_1092 (by decide) ?_
  refine W.widen (k := 45 + j + 1) (n := 18169 + 6 * j + 6) (by omega) (by omega) ?_
  exact kont _ H locs ls hP hD hS (lv_sub hl [0, 1, 2, 3, 4] rfl)

set_option maxHeartbeats 4000000 in
set_option maxRecDepth 100000 in
theorem lw_case_28 {p : Program} {l : Launch} {e : Env} {s : State} {m : MethodId} {below : List Frame} {meth : Method} {c : Code} {dC : Nat → ClassId} {dI : Nat → Nat → Nat} {b L : Nat} {xs : Nat → Int32} (C0 : lw_At p s m meth c b L xs) (ts ks kv : Nat → Nat) (sa : Nat) (hE : q_S ts ks kv (fun q : Nat => s.heap.size ≤ q) s) (hEX : q_X sa s) (hlt : l.stackTraces = false) {a : Nat → Nat} {k : Nat → ClassId} {bm : Nat → Nat} {km : Nat → ClassId} {q3 : Nat} {k3 : ClassId} {j : Nat} (hj : 6 * j + 6 ≤ L) (hL : L ≤ 3072) {z : Nat → Int32} (hz : ∀ q, z q = xs (6 * j + q)) {x y : XS} {p1 p2 : Int32 × XS} (h1 : SX_28 x z = some p1) (h2 : SY_28 y z = some p2) {fo : Nat → Int64} {H : Heap} {locs : List Loc} {ls : Array Slot} (hK : va_K (dC, dI) vwCl (lw_T k km k3) s) (hP : va_P (dC, dI) vwCl (lw_W a k bm km q3 k3 x y fo) H) (hD : va_D (fun q : Nat => s.heap.size ≤ q) (lw_W a k bm km q3 k3 x y fo)) (hS : va_S (fun q : Nat => s.heap.size ≤ q) s.heap H locs) (hl : lv_has ls 7 [(4, .int (nI (6 * j))), (3, .ref q3), (2, .ref (bm 0)), (1, .ref (a 0)), (0, .ref b)]) (kont : ∀ (fo : Nat → Int64) (H : Heap) (locs : List Loc) (ls : Array Slot), va_P (dC, dI) vwCl (lw_W a k bm km q3 k3 p1.2 p2.2 fo) H → va_D (fun q : Nat => s.heap.size ≤ q) (lw_W a k bm km q3 k3 p1.2 p2.2 fo) → va_S (fun q : Nat => s.heap.size ≤ q) s.heap H locs → lv_has ls 7 [(4, .int (nI (6 * j))), (3, .ref q3), (2, .ref (bm 0)), (1, .ref (a 0)), (0, .ref b)] → W p l e room_1 s m #[Value.ref b] below meth c H locs (45 + j + 1) (18169 + 6 * j + 6) (lw_Z below #[Value.ref b] s) (F0 m 1344 ls [])) : W p l e room_1 s m #[Value.ref b] below meth c H locs (45 + j) (18169 + 6 * j) (lw_Z below #[Value.ref b] s) (F0 m 1095 ls []) := by
  obtain ⟨hx, hb, hr, hml, hown, hts, hX, hbl, hlocks, hgv⟩ := C0
  have hown : s.vm.findClass RL = some m.cls := hown
  have hA : ∀ q : Nat, s.heap.size ≤ q → (fun q : Nat => s.heap.size ≤ q) q := fun _ h => h
  have hbA : ¬ (fun q : Nat => s.heap.size ≤ q) b := Nat.not_le.mpr hbl
  unfold SX_28 at h1
  unfold SY_28 at h2
  obtain ⟨o1, hF1, h1⟩ := q_bi h1
  have hp1 := Option.some.inj h1
  obtain ⟨o2, hF2, h2⟩ := q_bi h2
  have hp2 := Option.some.inj h2
  refine lv_aload_n hx hb dL_law_1095 rfl (lv_at hl 3 rfl) ?_
  refine lv_aload_n hx hb dL_law_1096 rfl (lv_at hl 4 rfl) ?_
  refine lv_iload hx hb dL_law_1097 (lv_at hl 0 rfl) ?_
  refine lv_iconst (v := 1) hx hb dL_law_1099 (by decide) ?_
  refine lv_iadd hx hb dL_law_1100 ?_
  refine q_top (y := nI (6 * j + 1)) (nI_add (6 * j) 1) ?_
  refine va_sld hx hb hX hbl hbA hS (i := (nI (6 * j + 1))) (vp_in_nI (by omega) (by omega)) dL_law_1101 ?_
  refine q_top (y := z 1) (by rw [nI_clamp (by omega), hz]) ?_
  have qxa2 : p1.2.1 2 = x.1 2 := by rw [← hp1]; try rfl
  have qxa5 : p1.2.1 5 = x.1 5 := by rw [← hp1]; try rfl
  have qxa6 : p1.2.1 6 = x.1 6 := by rw [← hp1]; try rfl
  have qxa8 : p1.2.1 8 = x.1 8 := by rw [← hp1]; try rfl
  have qxa9 : p1.2.1 9 = x.1 9 := by rw [← hp1]; try rfl
  have qxa11 : p1.2.1 11 = x.1 11 := by rw [← hp1]; try rfl
  have qxa12 : p1.2.1 12 = x.1 12 := by rw [← hp1]; try rfl
  have qxa13 : p1.2.1 13 = x.1 13 := by rw [← hp1]; try rfl
  have qxa15 : p1.2.1 15 = x.1 15 := by rw [← hp1]; try rfl
  have qxa17 : p1.2.1 17 = o1.2 := by rw [← hp1]; try rfl
  have qxa20 : p1.2.1 20 = x.1 20 := by rw [← hp1]; try rfl
  have qxa22 : p1.2.1 22 = x.1 22 := by rw [← hp1]; try rfl
  have qxa24 : p1.2.1 24 = x.1 24 := by rw [← hp1]; try rfl
  have qxa26 : p1.2.1 26 = x.1 26 := by rw [← hp1]; try rfl
  have qxa28 : p1.2.1 28 = x.1 28 := by rw [← hp1]; try rfl
  have qxi0 : p1.2.2.1 0 = x.2.1 0 := by rw [← hp1]; try rfl
  have qxi1 : p1.2.2.1 1 = x.2.1 1 := by rw [← hp1]; try rfl
  have qxi2 : p1.2.2.1 2 = x.2.1 2 := by rw [← hp1]; try rfl
  have qxi3 : p1.2.2.1 3 = x.2.1 3 := by rw [← hp1]; try rfl
  have qxi4 : p1.2.2.1 4 = x.2.1 4 := by rw [← hp1]; try rfl
  have qxi5 : p1.2.2.1 5 = x.2.1 5 := by rw [← hp1]; try rfl
  have qxi6 : p1.2.2.1 6 = x.2.1 6 := by rw [← hp1]; try rfl
  have qxi7 : p1.2.2.1 7 = x.2.1 7 := by rw [← hp1]; try rfl
  have qxi8 : p1.2.2.1 8 = x.2.1 8 := by rw [← hp1]; try rfl
  have qxi9 : p1.2.2.1 9 = x.2.1 9 := by rw [← hp1]; try rfl
  have qxi10 : p1.2.2.1 10 = x.2.1 10 := by rw [← hp1]; try rfl
  have qxi11 : p1.2.2.1 11 = x.2.1 11 := by rw [← hp1]; try rfl
  have qxl : p1.2.2.2 = x.2.2 := by rw [← hp1]; try rfl
  refine q_goi5 (v := o1.1) (lw_W a k bm km q3 k3 p1.2 y fo) [some 0, none, none, none, none, none, none, some 4, some 5, some 6, none, none, none, none, some 2, some 3, some 7, some 8, some 1, none, none, none, none, none, none, none, none, none, none, none, none, none, none, none, none, none, none, none, none, none, none, none, none, none, none] (va_runV (As := [.int (z 1)]) (rest := []) ⟨hx, hb, hml, hown, hts⟩ (c_X9_lost l dC dI a k (x.2.1 4) (x.2.1 11) (x.1 8) (x.1 9) (x.1 15) (x.1 17) (z 1) (va_A [((a 0), .inr (9, [.ref (a 1), .ref (a 3), .ref (a 4), .ref (a 7), .ref (a 10), .ref (a 14), .ref (a 16), .ref (a 18), .ref (a 19), .ref (a 21), .ref (a 23), .ref (a 25), .ref (a 27), .ref (a 28), .int (x.2.1 11)])), ((a 18), .inr (3, [.ref (a 14), .ref (a 16)])), ((a 14), .inr (0, [.ref (a 15), .ref (a 7)])), ((a 15), .inl ((k 15), 98, .inl (x.1 15))), ((a 7), .inr (5, [.ref (a 8), .ref (a 9), .int (x.2.1 4)])), ((a 8), .inl ((k 8), 8, .inl (x.1 8))), ((a 9), .inl ((k 9), 48, .inl (x.1 9))), ((a 16), .inr (0, [.ref (a 17), .ref (a 7)])), ((a 17), .inl ((k 17), 98, .inl (x.1 17)))] H.size) o1 hF1) (cwV 1 hts (q_lV m_1270 m_1271 m_1272 m_2 m_1273) rfl rfl rfl hdV_yX9_lost_1 ⟨Nat.le_of_ble_eq_true rfl, Nat.le_of_ble_eq_true rfl⟩) (q_preWV hK hP hD (q := (RX9, TX9, 15)) (ci := 9) (q0 := 0) rfl rfl [0, 18, 14, 15, 7, 8, 9, 16, 17] (by decide) rfl rfl [8, 3, 4, 9] rfl) rfl rfl hl.1 rfl (lv_room (Nat.le_of_ble_eq_true rfl)) dL_law_1102 ⟨by show 45 + j + 0 ≤ 1070; omega, by show 18169 + 6 * j + 0 ≤ 26367; omega⟩) hP hD hS hA [0, 18, 14, 15, 7, 8, 9, 16, 17] rfl (by unfold lw_W; simp only [qxa2, qxa5, qxa6, qxa8, qxa9, qxa11, qxa12, qxa13, qxa15, qxa17, qxa20, qxa22, qxa24, qxa26, qxa28, qxi0, qxi1, qxi2, qxi3, qxi4, qxi5, qxi6, qxi7, qxi8, qxi9, qxi10, qxi11, qxl]; rfl) rfl (by decide) (fun H locs hP hD hS => ?_)
  refine lv_pop hx hb dL_law_1105 rfl ?_
  refine lv_aload_n hx hb dL_law_1106 rfl (lv_at hl 2 rfl) ?_
  refine lv_aload_n hx hb dL_law_1107 rfl (lv_at hl 4 rfl) ?_
  refine lv_iload hx hb dL_law_1108 (lv_at hl 0 rfl) ?_
  refine lv_iconst (v := 1) hx hb dL_law_1110 (by decide) ?_
  refine lv_iadd hx hb dL_law_1111 ?_
  refine q_top (y := nI (6 * j + 1)) (nI_add (6 * j) 1) ?_
  refine va_sld hx hb hX hbl hbA hS (i := (nI (6 * j + 1))) (vp_in_nI (by omega) (by omega)) dL_law_1112 ?_
  refine q_top (y := z 1) (by rw [nI_clamp (by omega), hz]) ?_
  have qya1 : p2.2.1 1 = y.1 1 := by rw [← hp2]; try rfl
  have qya2 : p2.2.1 2 = y.1 2 := by rw [← hp2]; try rfl
  have qya3 : p2.2.1 3 = y.1 3 := by rw [← hp2]; try rfl
  have qya4 : p2.2.1 4 = y.1 4 := by rw [← hp2]; try rfl
  have qya5 : p2.2.1 5 = y.1 5 := by rw [← hp2]; try rfl
  have qya6 : p2.2.1 6 = y.1 6 := by rw [← hp2]; try rfl
  have qya7 : p2.2.1 7 = y.1 7 := by rw [← hp2]; try rfl
  have qya8 : p2.2.1 8 = o2.2.1 := by rw [← hp2]; try rfl
  have qya9 : p2.2.1 9 = y.1 9 := by rw [← hp2]; try rfl
  have qya10 : p2.2.1 10 = y.1 10 := by rw [← hp2]; try rfl
  have qya11 : p2.2.1 11 = o2.2.2 := by rw [← hp2]; try rfl
  have qya12 : p2.2.1 12 = y.1 12 := by rw [← hp2]; try rfl
  have qya13 : p2.2.1 13 = y.1 13 := by rw [← hp2]; try rfl
  have qya14 : p2.2.1 14 = y.1 14 := by rw [← hp2]; try rfl
  have qyi0 : p2.2.2.1 0 = y.2.1 0 := by rw [← hp2]; try rfl
  have qyi1 : p2.2.2.1 1 = y.2.1 1 := by rw [← hp2]; try rfl
  have qyi2 : p2.2.2.1 2 = y.2.1 2 := by rw [← hp2]; try rfl
  have qyi3 : p2.2.2.1 3 = y.2.1 3 := by rw [← hp2]; try rfl
  have qyi4 : p2.2.2.1 4 = y.2.1 4 := by rw [← hp2]; try rfl
  have qyi5 : p2.2.2.1 5 = y.2.1 5 := by rw [← hp2]; try rfl
  have qyi6 : p2.2.2.1 6 = y.2.1 6 := by rw [← hp2]; try rfl
  have qyi7 : p2.2.2.1 7 = y.2.1 7 := by rw [← hp2]; try rfl
  have qyi8 : p2.2.2.1 8 = y.2.1 8 := by rw [← hp2]; try rfl
  have qyl : p2.2.2.2 = y.2.2 := by rw [← hp2]; try rfl
  refine q_goi5 (v := o2.1) (lw_W a k bm km q3 k3 p1.2 p2.2 fo) [none, none, none, none, none, none, none, none, none, none, none, none, none, none, none, none, none, none, none, none, none, none, none, none, none, none, none, none, none, some 0, none, none, none, some 1, some 2, none, none, some 3, none, none, some 4, none, none, none, none] (va_runV (As := [.int (z 1)]) (rest := []) ⟨hx, hb, hml, hown, hts⟩ (c_X10_lost l dC dI bm km (y.2.1 0) (y.2.1 1) (y.2.1 2) (y.2.1 3) (y.2.1 4) (y.2.1 5) (y.2.1 6) (y.2.1 7) (y.2.1 8) (y.2.2) (y.1 4) (y.1 5) (y.1 8) (y.1 11) (z 1) (va_A [((bm 0), .inr (10, [.int (y.2.1 0), .ref (bm 1), .int (y.2.1 1), .int (y.2.1 2), .int (y.2.1 3), .ref (bm 2), .ref (bm 3), .int (y.2.1 4), .ref (bm 4), .ref (bm 5), .int (y.2.1 5), .ref (bm 6), .ref (bm 7), .int (y.2.1 6), .ref (bm 8), .ref (bm 9), .ref (bm 10), .int (y.2.1 7), .long (y.2.2), .ref (bm 11), .ref (bm 12), .ref (bm 13), .ref (bm 14), .int (y.2.1 8)])), ((bm 4), .inl ((km 4), 8, .inl (y.1 4))), ((bm 5), .inl ((km 5), 48, .inl (y.1 5))), ((bm 8), .inl ((km 8), 279, .inl (y.1 8))), ((bm 11), .inl ((km 11), 98, .inl (y.1 11)))] H.size) o2 hF2) (cwV 1 hts (q_lV m_1279 m_1280 m_1281 m_5 m_1282) rfl rfl rfl hdV_yX10_lost_1 ⟨Nat.le_of_ble_eq_true rfl, Nat.le_of_ble_eq_true rfl⟩) (q_preWV hK hP hD (q := (RX10, TX10, 24)) (ci := 10) (q0 := 29) rfl rfl [29, 33, 34, 37, 40] (by decide) rfl rfl [18, 19, 22, 25] rfl) rfl rfl hl.1 rfl (lv_room (Nat.le_of_ble_eq_true rfl)) dL_law_1113 ⟨by show 45 + j + 0 ≤ 1070; omega, by show 18169 + 6 * j + 0 ≤ 26367; omega⟩) hP hD hS hA [29, 33, 34, 37, 40] rfl (by unfold lw_W; simp only [qya1, qya2, qya3, qya4, qya5, qya6, qya7, qya8, qya9, qya10, qya11, qya12, qya13, qya14, qyi0, qyi1, qyi2, qyi3, qyi4, qyi5, qyi6, qyi7, qyi8, qyl]; rfl) rfl (by decide) (fun H locs hP hD hS => ?_)
  refine lv_pop hx hb dL_law_1116 rfl ?_
  refine lv_goto (tgt := 1344) hx hb dL_law_1117 (by decide) ?_
  refine W.widen (k := 45 + j + 1) (n := 18169 + 6 * j + 6) (by omega) (by omega) ?_
  exact kont _ H locs ls hP hD hS (lv_sub hl [0, 1, 2, 3, 4] rfl)

set_option maxHeartbeats 4000000 in
set_option maxRecDepth 100000 in
theorem lw_case_29 {p : Program} {l : Launch} {e : Env} {s : State} {m : MethodId} {below : List Frame} {meth : Method} {c : Code} {dC : Nat → ClassId} {dI : Nat → Nat → Nat} {b L : Nat} {xs : Nat → Int32} (C0 : lw_At p s m meth c b L xs) (ts ks kv : Nat → Nat) (sa : Nat) (hE : q_S ts ks kv (fun q : Nat => s.heap.size ≤ q) s) (hEX : q_X sa s) (hlt : l.stackTraces = false) {a : Nat → Nat} {k : Nat → ClassId} {bm : Nat → Nat} {km : Nat → ClassId} {q3 : Nat} {k3 : ClassId} {j : Nat} (hj : 6 * j + 6 ≤ L) (hL : L ≤ 3072) {z : Nat → Int32} (hz : ∀ q, z q = xs (6 * j + q)) {x y : XS} {p1 p2 : Int32 × XS} (h1 : SX_29 x z = some p1) (h2 : SY_29 y z = some p2) {fo : Nat → Int64} {H : Heap} {locs : List Loc} {ls : Array Slot} (hK : va_K (dC, dI) vwCl (lw_T k km k3) s) (hP : va_P (dC, dI) vwCl (lw_W a k bm km q3 k3 x y fo) H) (hD : va_D (fun q : Nat => s.heap.size ≤ q) (lw_W a k bm km q3 k3 x y fo)) (hS : va_S (fun q : Nat => s.heap.size ≤ q) s.heap H locs) (hl : lv_has ls 7 [(4, .int (nI (6 * j))), (3, .ref q3), (2, .ref (bm 0)), (1, .ref (a 0)), (0, .ref b)]) (kont : ∀ (fo : Nat → Int64) (H : Heap) (locs : List Loc) (ls : Array Slot), va_P (dC, dI) vwCl (lw_W a k bm km q3 k3 p1.2 p2.2 fo) H → va_D (fun q : Nat => s.heap.size ≤ q) (lw_W a k bm km q3 k3 p1.2 p2.2 fo) → va_S (fun q : Nat => s.heap.size ≤ q) s.heap H locs → lv_has ls 7 [(4, .int (nI (6 * j))), (3, .ref q3), (2, .ref (bm 0)), (1, .ref (a 0)), (0, .ref b)] → W p l e room_1 s m #[Value.ref b] below meth c H locs (45 + j + 1) (18169 + 6 * j + 6) (lw_Z below #[Value.ref b] s) (F0 m 1344 ls [])) : W p l e room_1 s m #[Value.ref b] below meth c H locs (45 + j) (18169 + 6 * j) (lw_Z below #[Value.ref b] s) (F0 m 1120 ls []) := by
  obtain ⟨hx, hb, hr, hml, hown, hts, hX, hbl, hlocks, hgv⟩ := C0
  have hown : s.vm.findClass RL = some m.cls := hown
  have hA : ∀ q : Nat, s.heap.size ≤ q → (fun q : Nat => s.heap.size ≤ q) q := fun _ h => h
  have hbA : ¬ (fun q : Nat => s.heap.size ≤ q) b := Nat.not_le.mpr hbl
  unfold SX_29 at h1
  unfold SY_29 at h2
  obtain ⟨o1, hF1, h1⟩ := q_bi h1
  have hp1 := Option.some.inj h1
  obtain ⟨o2, hF2, h2⟩ := q_bi h2
  have hp2 := Option.some.inj h2
  refine lv_aload_n hx hb dL_law_1120 rfl (lv_at hl 3 rfl) ?_
  refine lv_aload_n hx hb dL_law_1121 rfl (lv_at hl 4 rfl) ?_
  refine lv_iload hx hb dL_law_1122 (lv_at hl 0 rfl) ?_
  refine lv_iconst (v := 1) hx hb dL_law_1124 (by decide) ?_
  refine lv_iadd hx hb dL_law_1125 ?_
  refine q_top (y := nI (6 * j + 1)) (nI_add (6 * j) 1) ?_
  refine va_sld hx hb hX hbl hbA hS (i := (nI (6 * j + 1))) (vp_in_nI (by omega) (by omega)) dL_law_1126 ?_
  refine q_top (y := z 1) (by rw [nI_clamp (by omega), hz]) ?_
  refine lv_aload_n hx hb dL_law_1127 rfl (lv_at hl 4 rfl) ?_
  refine lv_iload hx hb dL_law_1128 (lv_at hl 0 rfl) ?_
  refine lv_iconst (v := 2) hx hb dL_law_1130 (by decide) ?_
  refine lv_iadd hx hb dL_law_1131 ?_
  refine q_top (y := nI (6 * j + 2)) (nI_add (6 * j) 2) ?_
  refine va_sld hx hb hX hbl hbA hS (i := (nI (6 * j + 2))) (vp_in_nI (by omega) (by omega)) dL_law_1132 ?_
  refine q_top (y := z 2) (by rw [nI_clamp (by omega), hz]) ?_
  refine q_goi (v := o1) (va_runV (As := [.int (z 1), .int (z 2)]) (rest := []) ⟨hx, hb, hml, hown, hts⟩ (c_X9_shares l dC dI a k (x.2.1 4) (x.2.1 11) (x.1 8) (x.1 9) (x.1 15) (z 1) (z 2) o1 hF1) (cwV 2 hts (q_lV m_1283 m_1284 m_1285 m_2 m_1286) rfl rfl rfl hdV_yX9_shares_2 ⟨Nat.le_of_ble_eq_true rfl, Nat.le_of_ble_eq_true rfl⟩) (q_preV hK hP (q := (RX9, TX9, 15)) (ci := 9) (q0 := 0) rfl rfl [0, 14, 15, 7, 8, 9] rfl [8, 3, 4] rfl) rfl rfl hl.1 rfl (lv_room (Nat.le_of_ble_eq_true rfl)) dL_law_1133 ⟨by show 45 + j + 0 ≤ 1070; omega, by show 18169 + 6 * j + 0 ≤ 26367; omega⟩) hP hS (fun H locs hP hS => ?_)
  have hP : va_P (dC, dI) vwCl (lw_W a k bm km q3 k3 p1.2 y fo) H := by rw [← hp1]; exact hP
  have hD : va_D (fun q : Nat => s.heap.size ≤ q) (lw_W a k bm km q3 k3 p1.2 y fo) := by rw [← hp1]; exact hD
  refine lv_pop hx hb dL_law_1136 rfl ?_
  refine lv_aload_n hx hb dL_law_1137 rfl (lv_at hl 2 rfl) ?_
  refine lv_aload_n hx hb dL_law_1138 rfl (lv_at hl 4 rfl) ?_
  refine lv_iload hx hb dL_law_1139 (lv_at hl 0 rfl) ?_
  refine lv_iconst (v := 1) hx hb dL_law_1141 (by decide) ?_
  refine lv_iadd hx hb dL_law_1142 ?_
  refine q_top (y := nI (6 * j + 1)) (nI_add (6 * j) 1) ?_
  refine va_sld hx hb hX hbl hbA hS (i := (nI (6 * j + 1))) (vp_in_nI (by omega) (by omega)) dL_law_1143 ?_
  refine q_top (y := z 1) (by rw [nI_clamp (by omega), hz]) ?_
  refine lv_aload_n hx hb dL_law_1144 rfl (lv_at hl 4 rfl) ?_
  refine lv_iload hx hb dL_law_1145 (lv_at hl 0 rfl) ?_
  refine lv_iconst (v := 2) hx hb dL_law_1147 (by decide) ?_
  refine lv_iadd hx hb dL_law_1148 ?_
  refine q_top (y := nI (6 * j + 2)) (nI_add (6 * j) 2) ?_
  refine va_sld hx hb hX hbl hbA hS (i := (nI (6 * j + 2))) (vp_in_nI (by omega) (by omega)) dL_law_1149 ?_
  refine q_top (y := z 2) (by rw [nI_clamp (by omega), hz]) ?_
  refine q_goi (v := o2) (va_runV (As := [.int (z 1), .int (z 2)]) (rest := []) ⟨hx, hb, hml, hown, hts⟩ (c_X10_shares l dC dI bm km (y.2.1 0) (y.2.1 1) (y.2.1 2) (y.2.1 3) (y.2.1 4) (y.2.1 5) (y.2.1 6) (y.2.1 7) (y.2.1 8) (y.2.2) (y.1 5) (y.1 8) (z 1) (z 2) o2 hF2) (cwV 2 hts (q_lV m_1287 m_1288 m_1289 m_5 m_1290) rfl rfl rfl hdV_yX10_shares_2 ⟨Nat.le_of_ble_eq_true rfl, Nat.le_of_ble_eq_true rfl⟩) (q_preV hK hP (q := (RX10, TX10, 24)) (ci := 10) (q0 := 29) rfl rfl [29, 34, 37] rfl [19, 22] rfl) rfl rfl hl.1 rfl (lv_room (Nat.le_of_ble_eq_true rfl)) dL_law_1150 ⟨by show 45 + j + 0 ≤ 1070; omega, by show 18169 + 6 * j + 0 ≤ 26367; omega⟩) hP hS (fun H locs hP hS => ?_)
  have hP : va_P (dC, dI) vwCl (lw_W a k bm km q3 k3 p1.2 p2.2 fo) H := by rw [← hp2]; exact hP
  have hD : va_D (fun q : Nat => s.heap.size ≤ q) (lw_W a k bm km q3 k3 p1.2 p2.2 fo) := by rw [← hp2]; exact hD
  refine lv_pop hx hb dL_law_1153 rfl ?_
  refine lv_goto (tgt := 1344) hx hb dL_law_1154 (by decide) ?_
  refine W.widen (k := 45 + j + 1) (n := 18169 + 6 * j + 6) (by omega) (by omega) ?_
  exact kont _ H locs ls hP hD hS (lv_sub hl [0, 1, 2, 3, 4] rfl)

set_option maxHeartbeats 4000000 in
set_option maxRecDepth 100000 in
theorem lw_case_30 {p : Program} {l : Launch} {e : Env} {s : State} {m : MethodId} {below : List Frame} {meth : Method} {c : Code} {dC : Nat → ClassId} {dI : Nat → Nat → Nat} {b L : Nat} {xs : Nat → Int32} (C0 : lw_At p s m meth c b L xs) (ts ks kv : Nat → Nat) (sa : Nat) (hE : q_S ts ks kv (fun q : Nat => s.heap.size ≤ q) s) (hEX : q_X sa s) (hlt : l.stackTraces = false) {a : Nat → Nat} {k : Nat → ClassId} {bm : Nat → Nat} {km : Nat → ClassId} {q3 : Nat} {k3 : ClassId} {j : Nat} (hj : 6 * j + 6 ≤ L) (hL : L ≤ 3072) {z : Nat → Int32} (hz : ∀ q, z q = xs (6 * j + q)) {x y : XS} {p1 p2 : Int32 × XS} (h1 : SX_30 x z = some p1) (h2 : SY_30 y z = some p2) {fo : Nat → Int64} {H : Heap} {locs : List Loc} {ls : Array Slot} (hK : va_K (dC, dI) vwCl (lw_T k km k3) s) (hP : va_P (dC, dI) vwCl (lw_W a k bm km q3 k3 x y fo) H) (hD : va_D (fun q : Nat => s.heap.size ≤ q) (lw_W a k bm km q3 k3 x y fo)) (hS : va_S (fun q : Nat => s.heap.size ≤ q) s.heap H locs) (hl : lv_has ls 7 [(4, .int (nI (6 * j))), (3, .ref q3), (2, .ref (bm 0)), (1, .ref (a 0)), (0, .ref b)]) (kont : ∀ (fo : Nat → Int64) (H : Heap) (locs : List Loc) (ls : Array Slot), va_P (dC, dI) vwCl (lw_W a k bm km q3 k3 p1.2 p2.2 fo) H → va_D (fun q : Nat => s.heap.size ≤ q) (lw_W a k bm km q3 k3 p1.2 p2.2 fo) → va_S (fun q : Nat => s.heap.size ≤ q) s.heap H locs → lv_has ls 7 [(4, .int (nI (6 * j))), (3, .ref q3), (2, .ref (bm 0)), (1, .ref (a 0)), (0, .ref b)] → W p l e room_1 s m #[Value.ref b] below meth c H locs (45 + j + 1) (18169 + 6 * j + 6) (lw_Z below #[Value.ref b] s) (F0 m 1344 ls [])) : W p l e room_1 s m #[Value.ref b] below meth c H locs (45 + j) (18169 + 6 * j) (lw_Z below #[Value.ref b] s) (F0 m 1157 ls []) := by
  obtain ⟨hx, hb, hr, hml, hown, hts, hX, hbl, hlocks, hgv⟩ := C0
  have hown : s.vm.findClass RL = some m.cls := hown
  have hA : ∀ q : Nat, s.heap.size ≤ q → (fun q : Nat => s.heap.size ≤ q) q := fun _ h => h
  have hbA : ¬ (fun q : Nat => s.heap.size ≤ q) b := Nat.not_le.mpr hbl
  unfold SX_30 at h1
  unfold SY_30 at h2
  obtain ⟨o1, hF1, h1⟩ := q_bi h1
  have hp1 := Option.some.inj h1
  obtain ⟨o2, hF2, h2⟩ := q_bi h2
  have hp2 := Option.some.inj h2
  refine lv_aload_n hx hb dL_law_1157 rfl (lv_at hl 3 rfl) ?_
  refine lv_aload_n hx hb dL_law_1158 rfl (lv_at hl 4 rfl) ?_
  refine lv_iload hx hb dL_law_1159 (lv_at hl 0 rfl) ?_
  refine lv_iconst (v := 1) hx hb dL_law_1161 (by decide) ?_
  refine lv_iadd hx hb dL_law_1162 ?_
  refine q_top (y := nI (6 * j + 1)) (nI_add (6 * j) 1) ?_
  refine va_sld hx hb hX hbl hbA hS (i := (nI (6 * j + 1))) (vp_in_nI (by omega) (by omega)) dL_law_1163 ?_
  refine q_top (y := z 1) (by rw [nI_clamp (by omega), hz]) ?_
  refine lv_aload_n hx hb dL_law_1164 rfl (lv_at hl 4 rfl) ?_
  refine lv_iload hx hb dL_law_1165 (lv_at hl 0 rfl) ?_
  refine lv_iconst (v := 2) hx hb dL_law_1167 (by decide) ?_
  refine lv_iadd hx hb dL_law_1168 ?_
  refine q_top (y := nI (6 * j + 2)) (nI_add (6 * j) 2) ?_
  refine va_sld hx hb hX hbl hbA hS (i := (nI (6 * j + 2))) (vp_in_nI (by omega) (by omega)) dL_law_1169 ?_
  refine q_top (y := z 2) (by rw [nI_clamp (by omega), hz]) ?_
  refine lv_aload_n hx hb dL_law_1170 rfl (lv_at hl 4 rfl) ?_
  refine lv_iload hx hb dL_law_1171 (lv_at hl 0 rfl) ?_
  refine lv_iconst (v := 3) hx hb dL_law_1173 (by decide) ?_
  refine lv_iadd hx hb dL_law_1174 ?_
  refine q_top (y := nI (6 * j + 3)) (nI_add (6 * j) 3) ?_
  refine va_sld hx hb hX hbl hbA hS (i := (nI (6 * j + 3))) (vp_in_nI (by omega) (by omega)) dL_law_1175 ?_
  refine q_top (y := z 3) (by rw [nI_clamp (by omega), hz]) ?_
  refine q_goi (v := o1) (va_runV (As := [.int (z 1), .int (z 2), .int (z 3)]) (rest := []) ⟨hx, hb, hml, hown, hts⟩ (c_X9_step l dC dI a k (x.2.1 5) (x.2.1 6) (x.2.1 11) (x.1 11) (x.1 12) (x.1 13) (z 1) (z 2) (z 3) o1 hF1) (cwV 3 hts (q_lV m_1291 m_1292 m_1293 m_2 m_1294) rfl rfl rfl hdV_yX9_step_3 ⟨Nat.le_of_ble_eq_true rfl, Nat.le_of_ble_eq_true rfl⟩) (q_preV hK hP (q := (RX9, TX9, 15)) (ci := 9) (q0 := 0) rfl rfl [0, 10, 11, 12, 13] rfl [5, 6, 7] rfl) rfl rfl hl.1 rfl (lv_room (Nat.le_of_ble_eq_true rfl)) dL_law_1176 ⟨by show 45 + j + 0 ≤ 1070; omega, by show 18169 + 6 * j + 0 ≤ 26367; omega⟩) hP hS (fun H locs hP hS => ?_)
  have hP : va_P (dC, dI) vwCl (lw_W a k bm km q3 k3 p1.2 y fo) H := by rw [← hp1]; exact hP
  have hD : va_D (fun q : Nat => s.heap.size ≤ q) (lw_W a k bm km q3 k3 p1.2 y fo) := by rw [← hp1]; exact hD
  refine lv_pop hx hb dL_law_1179 rfl ?_
  refine lv_aload_n hx hb dL_law_1180 rfl (lv_at hl 2 rfl) ?_
  refine lv_aload_n hx hb dL_law_1181 rfl (lv_at hl 4 rfl) ?_
  refine lv_iload hx hb dL_law_1182 (lv_at hl 0 rfl) ?_
  refine lv_iconst (v := 1) hx hb dL_law_1184 (by decide) ?_
  refine lv_iadd hx hb dL_law_1185 ?_
  refine q_top (y := nI (6 * j + 1)) (nI_add (6 * j) 1) ?_
  refine va_sld hx hb hX hbl hbA hS (i := (nI (6 * j + 1))) (vp_in_nI (by omega) (by omega)) dL_law_1186 ?_
  refine q_top (y := z 1) (by rw [nI_clamp (by omega), hz]) ?_
  refine lv_aload_n hx hb dL_law_1187 rfl (lv_at hl 4 rfl) ?_
  refine lv_iload hx hb dL_law_1188 (lv_at hl 0 rfl) ?_
  refine lv_iconst (v := 2) hx hb dL_law_1190 (by decide) ?_
  refine lv_iadd hx hb dL_law_1191 ?_
  refine q_top (y := nI (6 * j + 2)) (nI_add (6 * j) 2) ?_
  refine va_sld hx hb hX hbl hbA hS (i := (nI (6 * j + 2))) (vp_in_nI (by omega) (by omega)) dL_law_1192 ?_
  refine q_top (y := z 2) (by rw [nI_clamp (by omega), hz]) ?_
  refine lv_aload_n hx hb dL_law_1193 rfl (lv_at hl 4 rfl) ?_
  refine lv_iload hx hb dL_law_1194 (lv_at hl 0 rfl) ?_
  refine lv_iconst (v := 3) hx hb dL_law_1196 (by decide) ?_
  refine lv_iadd hx hb dL_law_1197 ?_
  refine q_top (y := nI (6 * j + 3)) (nI_add (6 * j) 3) ?_
  refine va_sld hx hb hX hbl hbA hS (i := (nI (6 * j + 3))) (vp_in_nI (by omega) (by omega)) dL_law_1198 ?_
  refine q_top (y := z 3) (by rw [nI_clamp (by omega), hz]) ?_
  refine q_goi (v := o2) (va_runV (As := [.int (z 1), .int (z 2), .int (z 3)]) (rest := []) ⟨hx, hb, hml, hown, hts⟩ (c_X10_step l dC dI bm km (y.2.1 0) (y.2.1 1) (y.2.1 2) (y.2.1 3) (y.2.1 4) (y.2.1 5) (y.2.1 6) (y.2.1 7) (y.2.1 8) (y.2.2) (y.1 6) (y.1 7) (z 1) (z 2) (z 3) o2 hF2) (cwV 3 hts (q_lV m_1304 m_1305 m_1306 m_5 m_1307) rfl rfl rfl hdV_yX10_step_3 ⟨Nat.le_of_ble_eq_true rfl, Nat.le_of_ble_eq_true rfl⟩) (q_preV hK hP (q := (RX10, TX10, 24)) (ci := 10) (q0 := 29) rfl rfl [29, 35, 36] rfl [20, 21] rfl) rfl rfl hl.1 rfl (lv_room (Nat.le_of_ble_eq_true rfl)) dL_law_1199 ⟨by show 45 + j + 0 ≤ 1070; omega, by show 18169 + 6 * j + 0 ≤ 26367; omega⟩) hP hS (fun H locs hP hS => ?_)
  have hP : va_P (dC, dI) vwCl (lw_W a k bm km q3 k3 p1.2 p2.2 fo) H := by rw [← hp2]; exact hP
  have hD : va_D (fun q : Nat => s.heap.size ≤ q) (lw_W a k bm km q3 k3 p1.2 p2.2 fo) := by rw [← hp2]; exact hD
  refine lv_pop hx hb dL_law_1202 rfl ?_
  refine lv_goto (tgt := 1344) hx hb dL_law_1203 (by decide) ?_
  refine W.widen (k := 45 + j + 1) (n := 18169 + 6 * j + 6) (by omega) (by omega) ?_
  exact kont _ H locs ls hP hD hS (lv_sub hl [0, 1, 2, 3, 4] rfl)

set_option maxHeartbeats 4000000 in
set_option maxRecDepth 100000 in
theorem lw_case_31 {p : Program} {l : Launch} {e : Env} {s : State} {m : MethodId} {below : List Frame} {meth : Method} {c : Code} {dC : Nat → ClassId} {dI : Nat → Nat → Nat} {b L : Nat} {xs : Nat → Int32} (C0 : lw_At p s m meth c b L xs) (ts ks kv : Nat → Nat) (sa : Nat) (hE : q_S ts ks kv (fun q : Nat => s.heap.size ≤ q) s) (hEX : q_X sa s) (hlt : l.stackTraces = false) {a : Nat → Nat} {k : Nat → ClassId} {bm : Nat → Nat} {km : Nat → ClassId} {q3 : Nat} {k3 : ClassId} {j : Nat} (hj : 6 * j + 6 ≤ L) (hL : L ≤ 3072) {z : Nat → Int32} (hz : ∀ q, z q = xs (6 * j + q)) {x y : XS} {p1 p2 : Int32 × XS} (h1 : SX_31 x z = some p1) (h2 : SY_31 y z = some p2) {fo : Nat → Int64} {H : Heap} {locs : List Loc} {ls : Array Slot} (hK : va_K (dC, dI) vwCl (lw_T k km k3) s) (hP : va_P (dC, dI) vwCl (lw_W a k bm km q3 k3 x y fo) H) (hD : va_D (fun q : Nat => s.heap.size ≤ q) (lw_W a k bm km q3 k3 x y fo)) (hS : va_S (fun q : Nat => s.heap.size ≤ q) s.heap H locs) (hl : lv_has ls 7 [(4, .int (nI (6 * j))), (3, .ref q3), (2, .ref (bm 0)), (1, .ref (a 0)), (0, .ref b)]) (kont : ∀ (fo : Nat → Int64) (H : Heap) (locs : List Loc) (ls : Array Slot), va_P (dC, dI) vwCl (lw_W a k bm km q3 k3 p1.2 p2.2 fo) H → va_D (fun q : Nat => s.heap.size ≤ q) (lw_W a k bm km q3 k3 p1.2 p2.2 fo) → va_S (fun q : Nat => s.heap.size ≤ q) s.heap H locs → lv_has ls 7 [(4, .int (nI (6 * j))), (3, .ref q3), (2, .ref (bm 0)), (1, .ref (a 0)), (0, .ref b)] → W p l e room_1 s m #[Value.ref b] below meth c H locs (45 + j + 1) (18169 + 6 * j + 6) (lw_Z below #[Value.ref b] s) (F0 m 1344 ls [])) : W p l e room_1 s m #[Value.ref b] below meth c H locs (45 + j) (18169 + 6 * j) (lw_Z below #[Value.ref b] s) (F0 m 1206 ls []) := by
  obtain ⟨hx, hb, hr, hml, hown, hts, hX, hbl, hlocks, hgv⟩ := C0
  have hown : s.vm.findClass RL = some m.cls := hown
  have hA : ∀ q : Nat, s.heap.size ≤ q → (fun q : Nat => s.heap.size ≤ q) q := fun _ h => h
  have hbA : ¬ (fun q : Nat => s.heap.size ≤ q) b := Nat.not_le.mpr hbl
  unfold SX_31 at h1
  unfold SY_31 at h2
  obtain ⟨o1, hF1, h1⟩ := q_bi h1
  have hp1 := Option.some.inj h1
  obtain ⟨o2, hF2, h2⟩ := q_bi h2
  have hp2 := Option.some.inj h2
  refine lv_aload_n hx hb dL_law_1206 rfl (lv_at hl 3 rfl) ?_
  refine lv_aload_n hx hb dL_law_1207 rfl (lv_at hl 4 rfl) ?_
  refine lv_iload hx hb dL_law_1208 (lv_at hl 0 rfl) ?_
  refine lv_iconst (v := 1) hx hb dL_law_1210 (by decide) ?_
  refine lv_iadd hx hb dL_law_1211 ?_
  refine q_top (y := nI (6 * j + 1)) (nI_add (6 * j) 1) ?_
  refine va_sld hx hb hX hbl hbA hS (i := (nI (6 * j + 1))) (vp_in_nI (by omega) (by omega)) dL_law_1212 ?_
  refine q_top (y := z 1) (by rw [nI_clamp (by omega), hz]) ?_
  refine lv_aload_n hx hb dL_law_1213 rfl (lv_at hl 4 rfl) ?_
  refine lv_iload hx hb dL_law_1214 (lv_at hl 0 rfl) ?_
  refine lv_iconst (v := 2) hx hb dL_law_1216 (by decide) ?_
  refine lv_iadd hx hb dL_law_1217 ?_
  refine q_top (y := nI (6 * j + 2)) (nI_add (6 * j) 2) ?_
  refine va_sld hx hb hX hbl hbA hS (i := (nI (6 * j + 2))) (vp_in_nI (by omega) (by omega)) dL_law_1218 ?_
  refine q_top (y := z 2) (by rw [nI_clamp (by omega), hz]) ?_
  have qxa2 : p1.2.1 2 = x.1 2 := by rw [← hp1]; try rfl
  have qxa5 : p1.2.1 5 = x.1 5 := by rw [← hp1]; try rfl
  have qxa6 : p1.2.1 6 = x.1 6 := by rw [← hp1]; try rfl
  have qxa8 : p1.2.1 8 = x.1 8 := by rw [← hp1]; try rfl
  have qxa9 : p1.2.1 9 = x.1 9 := by rw [← hp1]; try rfl
  have qxa11 : p1.2.1 11 = x.1 11 := by rw [← hp1]; try rfl
  have qxa12 : p1.2.1 12 = x.1 12 := by rw [← hp1]; try rfl
  have qxa13 : p1.2.1 13 = x.1 13 := by rw [← hp1]; try rfl
  have qxa15 : p1.2.1 15 = x.1 15 := by rw [← hp1]; try rfl
  have qxa17 : p1.2.1 17 = o1.2.2.2.2.1 := by rw [← hp1]; try rfl
  have qxa20 : p1.2.1 20 = o1.2.2.2.2.2.1 := by rw [← hp1]; try rfl
  have qxa22 : p1.2.1 22 = o1.2.2.2.2.2.2 := by rw [← hp1]; try rfl
  have qxa24 : p1.2.1 24 = x.1 24 := by rw [← hp1]; try rfl
  have qxa26 : p1.2.1 26 = x.1 26 := by rw [← hp1]; try rfl
  have qxa28 : p1.2.1 28 = x.1 28 := by rw [← hp1]; try rfl
  have qxi0 : p1.2.2.1 0 = x.2.1 0 := by rw [← hp1]; try rfl
  have qxi1 : p1.2.2.1 1 = x.2.1 1 := by rw [← hp1]; try rfl
  have qxi2 : p1.2.2.1 2 = x.2.1 2 := by rw [← hp1]; try rfl
  have qxi3 : p1.2.2.1 3 = x.2.1 3 := by rw [← hp1]; try rfl
  have qxi4 : p1.2.2.1 4 = x.2.1 4 := by rw [← hp1]; try rfl
  have qxi5 : p1.2.2.1 5 = x.2.1 5 := by rw [← hp1]; try rfl
  have qxi6 : p1.2.2.1 6 = x.2.1 6 := by rw [← hp1]; try rfl
  have qxi7 : p1.2.2.1 7 = o1.2.1 := by rw [← hp1]; try rfl
  have qxi8 : p1.2.2.1 8 = o1.2.2.1 := by rw [← hp1]; try rfl
  have qxi9 : p1.2.2.1 9 = o1.2.2.2.1 := by rw [← hp1]; try rfl
  have qxi10 : p1.2.2.1 10 = x.2.1 10 := by rw [← hp1]; try rfl
  have qxi11 : p1.2.2.1 11 = x.2.1 11 := by rw [← hp1]; try rfl
  have qxl : p1.2.2.2 = x.2.2 := by rw [← hp1]; try rfl
  refine q_goi5 (v := o1.1) (lw_W a k bm km q3 k3 p1.2 y fo) [some 0, none, none, none, none, none, none, some 3, some 4, some 5, some 8, some 9, some 10, some 11, some 1, some 2, some 6, some 7, none, some 12, some 13, some 14, some 15, none, none, none, none, none, none, none, none, none, none, none, none, none, none, none, none, none, none, none, none, none, none] (va_runV (As := [.int (z 1), .int (z 2)]) (rest := []) ⟨hx, hb, hml, hown, hts⟩ (c_X9_run l dC dI ts ks kv a k (x.2.1 4) (x.2.1 5) (x.2.1 6) (x.2.1 7) (x.2.1 8) (x.2.1 9) (x.2.1 11) (x.1 8) (x.1 9) (x.1 11) (x.1 12) (x.1 13) (x.1 15) (x.1 17) (x.1 20) (x.1 22) (z 1) (z 2) (va_A [((a 0), .inr (9, [.ref (a 1), .ref (a 3), .ref (a 4), .ref (a 7), .ref (a 10), .ref (a 14), .ref (a 16), .ref (a 18), .ref (a 19), .ref (a 21), .ref (a 23), .ref (a 25), .ref (a 27), .ref (a 28), .int (x.2.1 11)])), ((a 14), .inr (0, [.ref (a 15), .ref (a 7)])), ((a 15), .inl ((k 15), 98, .inl (x.1 15))), ((a 7), .inr (5, [.ref (a 8), .ref (a 9), .int (x.2.1 4)])), ((a 8), .inl ((k 8), 8, .inl (x.1 8))), ((a 9), .inl ((k 9), 48, .inl (x.1 9))), ((a 16), .inr (0, [.ref (a 17), .ref (a 7)])), ((a 17), .inl ((k 17), 98, .inl (x.1 17))), ((a 10), .inr (7, [.ref (a 11), .ref (a 12), .ref (a 13), .int (x.2.1 5), .int (x.2.1 6)])), ((a 11), .inl ((k 11), 256, .inl (x.1 11))), ((a 12), .inl ((k 12), 4, .inl (x.1 12))), ((a 13), .inl ((k 13), 64, .inl (x.1 13))), ((a 19), .inr (4, [.ref (a 20), .int (x.2.1 7), .int (x.2.1 8)])), ((a 20), .inl ((k 20), 3920, .inl (x.1 20))), ((a 21), .inr (1, [.ref (a 22), .int (x.2.1 9)])), ((a 22), .inl ((k 22), 300, .inl (x.1 22)))] H.size) o1 hF1) (cwV 2 hts (q_lV m_1312 m_1313 m_1314 m_2 m_1315) rfl rfl rfl hdV_yX9_run_2 ⟨Nat.le_of_ble_eq_true rfl, Nat.le_of_ble_eq_true rfl⟩) (q_preWVE hK hP hD (q := (RX9, TX9, 15)) (ci := 9) (q0 := 0) rfl rfl [0, 14, 15, 7, 8, 9, 16, 17, 10, 11, 12, 13, 19, 20, 21, 22] (by decide) rfl rfl [8, 3, 4, 9, 5, 6, 7, 10, 11] rfl q_S_bl (q_S_give hE hS (va_free (wc := [((a 0), .inr (9, [.ref (a 1), .ref (a 3), .ref (a 4), .ref (a 7), .ref (a 10), .ref (a 14), .ref (a 16), .ref (a 18), .ref (a 19), .ref (a 21), .ref (a 23), .ref (a 25), .ref (a 27), .ref (a 28), .int (x.2.1 11)])), ((a 14), .inr (0, [.ref (a 15), .ref (a 7)])), ((a 15), .inl ((k 15), 98, .inl (x.1 15))), ((a 7), .inr (5, [.ref (a 8), .ref (a 9), .int (x.2.1 4)])), ((a 8), .inl ((k 8), 8, .inl (x.1 8))), ((a 9), .inl ((k 9), 48, .inl (x.1 9))), ((a 16), .inr (0, [.ref (a 17), .ref (a 7)])), ((a 17), .inl ((k 17), 98, .inl (x.1 17))), ((a 10), .inr (7, [.ref (a 11), .ref (a 12), .ref (a 13), .int (x.2.1 5), .int (x.2.1 6)])), ((a 11), .inl ((k 11), 256, .inl (x.1 11))), ((a 12), .inl ((k 12), 4, .inl (x.1 12))), ((a 13), .inl ((k 13), 64, .inl (x.1 13))), ((a 19), .inr (4, [.ref (a 20), .int (x.2.1 7), .int (x.2.1 8)])), ((a 20), .inl ((k 20), 3920, .inl (x.1 20))), ((a 21), .inr (1, [.ref (a 22), .int (x.2.1 9)])), ((a 22), .inl ((k 22), 300, .inl (x.1 22)))]) hD hS hA [0, 14, 15, 7, 8, 9, 16, 17, 10, 11, 12, 13, 19, 20, 21, 22] rfl))) rfl rfl hl.1 rfl (lv_room (Nat.le_of_ble_eq_true rfl)) dL_law_1219 ⟨by show 45 + j + 0 ≤ 1070; omega, by show 18169 + 6 * j + 0 ≤ 26367; omega⟩) hP hD hS hA [0, 14, 15, 7, 8, 9, 16, 17, 10, 11, 12, 13, 19, 20, 21, 22] rfl (by unfold lw_W; simp only [qxa2, qxa5, qxa6, qxa8, qxa9, qxa11, qxa12, qxa13, qxa15, qxa17, qxa20, qxa22, qxa24, qxa26, qxa28, qxi0, qxi1, qxi2, qxi3, qxi4, qxi5, qxi6, qxi7, qxi8, qxi9, qxi10, qxi11, qxl]; rfl) rfl (by decide) (fun H locs hP hD hS => ?_)
  refine lv_pop hx hb dL_law_1222 rfl ?_
  refine lv_aload_n hx hb dL_law_1223 rfl (lv_at hl 2 rfl) ?_
  refine lv_aload_n hx hb dL_law_1224 rfl (lv_at hl 4 rfl) ?_
  refine lv_iload hx hb dL_law_1225 (lv_at hl 0 rfl) ?_
  refine lv_iconst (v := 1) hx hb dL_law_1227 (by decide) ?_
  refine lv_iadd hx hb dL_law_1228 ?_
  refine q_top (y := nI (6 * j + 1)) (nI_add (6 * j) 1) ?_
  refine va_sld hx hb hX hbl hbA hS (i := (nI (6 * j + 1))) (vp_in_nI (by omega) (by omega)) dL_law_1229 ?_
  refine q_top (y := z 1) (by rw [nI_clamp (by omega), hz]) ?_
  refine lv_aload_n hx hb dL_law_1230 rfl (lv_at hl 4 rfl) ?_
  refine lv_iload hx hb dL_law_1231 (lv_at hl 0 rfl) ?_
  refine lv_iconst (v := 2) hx hb dL_law_1233 (by decide) ?_
  refine lv_iadd hx hb dL_law_1234 ?_
  refine q_top (y := nI (6 * j + 2)) (nI_add (6 * j) 2) ?_
  refine va_sld hx hb hX hbl hbA hS (i := (nI (6 * j + 2))) (vp_in_nI (by omega) (by omega)) dL_law_1235 ?_
  refine q_top (y := z 2) (by rw [nI_clamp (by omega), hz]) ?_
  have qya1 : p2.2.1 1 = y.1 1 := by rw [← hp2]; try rfl
  have qya2 : p2.2.1 2 = y.1 2 := by rw [← hp2]; try rfl
  have qya3 : p2.2.1 3 = y.1 3 := by rw [← hp2]; try rfl
  have qya4 : p2.2.1 4 = y.1 4 := by rw [← hp2]; try rfl
  have qya5 : p2.2.1 5 = y.1 5 := by rw [← hp2]; try rfl
  have qya6 : p2.2.1 6 = y.1 6 := by rw [← hp2]; try rfl
  have qya7 : p2.2.1 7 = y.1 7 := by rw [← hp2]; try rfl
  have qya8 : p2.2.1 8 = o2.2.2.1 := by rw [← hp2]; try rfl
  have qya9 : p2.2.1 9 = y.1 9 := by rw [← hp2]; try rfl
  have qya10 : p2.2.1 10 = o2.2.2.2.1 := by rw [← hp2]; try rfl
  have qya11 : p2.2.1 11 = o2.2.2.2.2 := by rw [← hp2]; try rfl
  have qya12 : p2.2.1 12 = y.1 12 := by rw [← hp2]; try rfl
  have qya13 : p2.2.1 13 = y.1 13 := by rw [← hp2]; try rfl
  have qya14 : p2.2.1 14 = y.1 14 := by rw [← hp2]; try rfl
  have qyi0 : p2.2.2.1 0 = y.2.1 0 := by rw [← hp2]; try rfl
  have qyi1 : p2.2.2.1 1 = y.2.1 1 := by rw [← hp2]; try rfl
  have qyi2 : p2.2.2.1 2 = y.2.1 2 := by rw [← hp2]; try rfl
  have qyi3 : p2.2.2.1 3 = y.2.1 3 := by rw [← hp2]; try rfl
  have qyi4 : p2.2.2.1 4 = y.2.1 4 := by rw [← hp2]; try rfl
  have qyi5 : p2.2.2.1 5 = y.2.1 5 := by rw [← hp2]; try rfl
  have qyi6 : p2.2.2.1 6 = y.2.1 6 := by rw [← hp2]; try rfl
  have qyi7 : p2.2.2.1 7 = o2.2.1 := by rw [← hp2]; try rfl
  have qyi8 : p2.2.2.1 8 = y.2.1 8 := by rw [← hp2]; try rfl
  have qyl : p2.2.2.2 = y.2.2 := by rw [← hp2]; try rfl
  refine q_goi5 (v := o2.1) (lw_W a k bm km q3 k3 p1.2 p2.2 fo) [none, none, none, none, none, none, none, none, none, none, none, none, none, none, none, none, none, none, none, none, none, none, none, none, none, none, none, none, none, some 0, none, none, none, some 1, some 2, some 3, some 4, some 5, none, some 6, some 7, none, none, none, none] (va_runV (As := [.int (z 1), .int (z 2)]) (rest := []) ⟨hx, hb, hml, hown, hts⟩ (c_X10_run l dC dI bm km (y.2.1 0) (y.2.1 1) (y.2.1 2) (y.2.1 3) (y.2.1 4) (y.2.1 5) (y.2.1 6) (y.2.1 7) (y.2.1 8) (y.2.2) (y.1 4) (y.1 5) (y.1 6) (y.1 7) (y.1 8) (y.1 10) (y.1 11) (z 1) (z 2) (va_A [((bm 0), .inr (10, [.int (y.2.1 0), .ref (bm 1), .int (y.2.1 1), .int (y.2.1 2), .int (y.2.1 3), .ref (bm 2), .ref (bm 3), .int (y.2.1 4), .ref (bm 4), .ref (bm 5), .int (y.2.1 5), .ref (bm 6), .ref (bm 7), .int (y.2.1 6), .ref (bm 8), .ref (bm 9), .ref (bm 10), .int (y.2.1 7), .long (y.2.2), .ref (bm 11), .ref (bm 12), .ref (bm 13), .ref (bm 14), .int (y.2.1 8)])), ((bm 4), .inl ((km 4), 8, .inl (y.1 4))), ((bm 5), .inl ((km 5), 48, .inl (y.1 5))), ((bm 6), .inl ((km 6), 320, .inl (y.1 6))), ((bm 7), .inl ((km 7), 5, .inl (y.1 7))), ((bm 8), .inl ((km 8), 279, .inl (y.1 8))), ((bm 10), .inl ((km 10), 11160, .inl (y.1 10))), ((bm 11), .inl ((km 11), 98, .inl (y.1 11)))] H.size) o2 hF2) (cwV 2 hts (q_lV m_1326 m_1327 m_1328 m_5 m_1329) rfl rfl rfl hdV_yX10_run_2 ⟨Nat.le_of_ble_eq_true rfl, Nat.le_of_ble_eq_true rfl⟩) (q_preWV hK hP hD (q := (RX10, TX10, 24)) (ci := 10) (q0 := 29) rfl rfl [29, 33, 34, 35, 36, 37, 39, 40] (by decide) rfl rfl [18, 19, 20, 21, 22, 24, 25] rfl) rfl rfl hl.1 rfl (lv_room (Nat.le_of_ble_eq_true rfl)) dL_law_1236 ⟨by show 45 + j + 0 ≤ 1070; omega, by show 18169 + 6 * j + 0 ≤ 26367; omega⟩) hP hD hS hA [29, 33, 34, 35, 36, 37, 39, 40] rfl (by unfold lw_W; simp only [qya1, qya2, qya3, qya4, qya5, qya6, qya7, qya8, qya9, qya10, qya11, qya12, qya13, qya14, qyi0, qyi1, qyi2, qyi3, qyi4, qyi5, qyi6, qyi7, qyi8, qyl]; rfl) rfl (by decide) (fun H locs hP hD hS => ?_)
  refine lv_pop hx hb dL_law_1239 rfl ?_
  refine lv_goto (tgt := 1344) hx hb dL_law_1240 (by decide) ?_
  refine W.widen (k := 45 + j + 1) (n := 18169 + 6 * j + 6) (by omega) (by omega) ?_
  exact kont _ H locs ls hP hD hS (lv_sub hl [0, 1, 2, 3, 4] rfl)

set_option maxHeartbeats 4000000 in
set_option maxRecDepth 100000 in
theorem lw_case_32 {p : Program} {l : Launch} {e : Env} {s : State} {m : MethodId} {below : List Frame} {meth : Method} {c : Code} {dC : Nat → ClassId} {dI : Nat → Nat → Nat} {b L : Nat} {xs : Nat → Int32} (C0 : lw_At p s m meth c b L xs) (ts ks kv : Nat → Nat) (sa : Nat) (hE : q_S ts ks kv (fun q : Nat => s.heap.size ≤ q) s) (hEX : q_X sa s) (hlt : l.stackTraces = false) {a : Nat → Nat} {k : Nat → ClassId} {bm : Nat → Nat} {km : Nat → ClassId} {q3 : Nat} {k3 : ClassId} {j : Nat} (hj : 6 * j + 6 ≤ L) (hL : L ≤ 3072) {z : Nat → Int32} (hz : ∀ q, z q = xs (6 * j + q)) {x y : XS} {p1 p2 : Int32 × XS} (h1 : SX_32 x z = some p1) (h2 : SY_32 y z = some p2) {fo : Nat → Int64} {H : Heap} {locs : List Loc} {ls : Array Slot} (hK : va_K (dC, dI) vwCl (lw_T k km k3) s) (hP : va_P (dC, dI) vwCl (lw_W a k bm km q3 k3 x y fo) H) (hD : va_D (fun q : Nat => s.heap.size ≤ q) (lw_W a k bm km q3 k3 x y fo)) (hS : va_S (fun q : Nat => s.heap.size ≤ q) s.heap H locs) (hl : lv_has ls 7 [(4, .int (nI (6 * j))), (3, .ref q3), (2, .ref (bm 0)), (1, .ref (a 0)), (0, .ref b)]) (kont : ∀ (fo : Nat → Int64) (H : Heap) (locs : List Loc) (ls : Array Slot), va_P (dC, dI) vwCl (lw_W a k bm km q3 k3 p1.2 p2.2 fo) H → va_D (fun q : Nat => s.heap.size ≤ q) (lw_W a k bm km q3 k3 p1.2 p2.2 fo) → va_S (fun q : Nat => s.heap.size ≤ q) s.heap H locs → lv_has ls 7 [(4, .int (nI (6 * j))), (3, .ref q3), (2, .ref (bm 0)), (1, .ref (a 0)), (0, .ref b)] → W p l e room_1 s m #[Value.ref b] below meth c H locs (45 + j + 1) (18169 + 6 * j + 6) (lw_Z below #[Value.ref b] s) (F0 m 1344 ls [])) : W p l e room_1 s m #[Value.ref b] below meth c H locs (45 + j) (18169 + 6 * j) (lw_Z below #[Value.ref b] s) (F0 m 1243 ls []) := by
  obtain ⟨hx, hb, hr, hml, hown, hts, hX, hbl, hlocks, hgv⟩ := C0
  have hown : s.vm.findClass RL = some m.cls := hown
  have hA : ∀ q : Nat, s.heap.size ≤ q → (fun q : Nat => s.heap.size ≤ q) q := fun _ h => h
  have hbA : ¬ (fun q : Nat => s.heap.size ≤ q) b := Nat.not_le.mpr hbl
  unfold SX_32 at h1
  unfold SY_32 at h2
  obtain ⟨o1, hF1, h1⟩ := q_bi h1
  have hp1 := Option.some.inj h1
  obtain ⟨o2, hF2, h2⟩ := q_bi h2
  have hp2 := Option.some.inj h2
  refine lv_aload_n hx hb dL_law_1243 rfl (lv_at hl 3 rfl) ?_
  refine lv_aload_n hx hb dL_law_1244 rfl (lv_at hl 4 rfl) ?_
  refine lv_iload hx hb dL_law_1245 (lv_at hl 0 rfl) ?_
  refine lv_iconst (v := 1) hx hb dL_law_1247 (by decide) ?_
  refine lv_iadd hx hb dL_law_1248 ?_
  refine q_top (y := nI (6 * j + 1)) (nI_add (6 * j) 1) ?_
  refine va_sld hx hb hX hbl hbA hS (i := (nI (6 * j + 1))) (vp_in_nI (by omega) (by omega)) dL_law_1249 ?_
  refine q_top (y := z 1) (by rw [nI_clamp (by omega), hz]) ?_
  have qxa2 : p1.2.1 2 = x.1 2 := by rw [← hp1]; try rfl
  have qxa5 : p1.2.1 5 = x.1 5 := by rw [← hp1]; try rfl
  have qxa6 : p1.2.1 6 = x.1 6 := by rw [← hp1]; try rfl
  have qxa8 : p1.2.1 8 = x.1 8 := by rw [← hp1]; try rfl
  have qxa9 : p1.2.1 9 = x.1 9 := by rw [← hp1]; try rfl
  have qxa11 : p1.2.1 11 = x.1 11 := by rw [← hp1]; try rfl
  have qxa12 : p1.2.1 12 = x.1 12 := by rw [← hp1]; try rfl
  have qxa13 : p1.2.1 13 = x.1 13 := by rw [← hp1]; try rfl
  have qxa15 : p1.2.1 15 = o1.2.2.2.2.1 := by rw [← hp1]; try rfl
  have qxa17 : p1.2.1 17 = x.1 17 := by rw [← hp1]; try rfl
  have qxa20 : p1.2.1 20 = o1.2.2.2.2.2.1 := by rw [← hp1]; try rfl
  have qxa22 : p1.2.1 22 = o1.2.2.2.2.2.2 := by rw [← hp1]; try rfl
  have qxa24 : p1.2.1 24 = x.1 24 := by rw [← hp1]; try rfl
  have qxa26 : p1.2.1 26 = x.1 26 := by rw [← hp1]; try rfl
  have qxa28 : p1.2.1 28 = x.1 28 := by rw [← hp1]; try rfl
  have qxi0 : p1.2.2.1 0 = x.2.1 0 := by rw [← hp1]; try rfl
  have qxi1 : p1.2.2.1 1 = x.2.1 1 := by rw [← hp1]; try rfl
  have qxi2 : p1.2.2.1 2 = x.2.1 2 := by rw [← hp1]; try rfl
  have qxi3 : p1.2.2.1 3 = x.2.1 3 := by rw [← hp1]; try rfl
  have qxi4 : p1.2.2.1 4 = x.2.1 4 := by rw [← hp1]; try rfl
  have qxi5 : p1.2.2.1 5 = x.2.1 5 := by rw [← hp1]; try rfl
  have qxi6 : p1.2.2.1 6 = x.2.1 6 := by rw [← hp1]; try rfl
  have qxi7 : p1.2.2.1 7 = o1.2.1 := by rw [← hp1]; try rfl
  have qxi8 : p1.2.2.1 8 = o1.2.2.1 := by rw [← hp1]; try rfl
  have qxi9 : p1.2.2.1 9 = o1.2.2.2.1 := by rw [← hp1]; try rfl
  have qxi10 : p1.2.2.1 10 = x.2.1 10 := by rw [← hp1]; try rfl
  have qxi11 : p1.2.2.1 11 = x.2.1 11 := by rw [← hp1]; try rfl
  have qxl : p1.2.2.2 = x.2.2 := by rw [← hp1]; try rfl
  refine q_goi5 (v := o1.1) (lw_W a k bm km q3 k3 p1.2 y fo) [some 0, none, none, none, none, none, none, some 3, some 4, some 5, some 6, some 7, some 8, some 9, some 1, some 2, none, none, none, some 10, some 11, some 12, some 13, none, none, none, none, none, none, none, none, none, none, none, none, none, none, none, none, none, none, none, none, none, none] (va_runV (As := [.int (z 1)]) (rest := []) ⟨hx, hb, hml, hown, hts⟩ (c_X9_perform l dC dI ts ks kv a k (x.2.1 4) (x.2.1 5) (x.2.1 6) (x.2.1 7) (x.2.1 8) (x.2.1 9) (x.2.1 11) (x.1 8) (x.1 9) (x.1 11) (x.1 12) (x.1 13) (x.1 15) (x.1 20) (x.1 22) (z 1) (va_A [((a 0), .inr (9, [.ref (a 1), .ref (a 3), .ref (a 4), .ref (a 7), .ref (a 10), .ref (a 14), .ref (a 16), .ref (a 18), .ref (a 19), .ref (a 21), .ref (a 23), .ref (a 25), .ref (a 27), .ref (a 28), .int (x.2.1 11)])), ((a 14), .inr (0, [.ref (a 15), .ref (a 7)])), ((a 15), .inl ((k 15), 98, .inl (x.1 15))), ((a 7), .inr (5, [.ref (a 8), .ref (a 9), .int (x.2.1 4)])), ((a 8), .inl ((k 8), 8, .inl (x.1 8))), ((a 9), .inl ((k 9), 48, .inl (x.1 9))), ((a 10), .inr (7, [.ref (a 11), .ref (a 12), .ref (a 13), .int (x.2.1 5), .int (x.2.1 6)])), ((a 11), .inl ((k 11), 256, .inl (x.1 11))), ((a 12), .inl ((k 12), 4, .inl (x.1 12))), ((a 13), .inl ((k 13), 64, .inl (x.1 13))), ((a 19), .inr (4, [.ref (a 20), .int (x.2.1 7), .int (x.2.1 8)])), ((a 20), .inl ((k 20), 3920, .inl (x.1 20))), ((a 21), .inr (1, [.ref (a 22), .int (x.2.1 9)])), ((a 22), .inl ((k 22), 300, .inl (x.1 22)))] H.size) o1 hF1) (cwV 1 hts (q_lV m_1337 m_1338 m_1339 m_2 m_1340) rfl rfl rfl hdV_yX9_perform_1 ⟨Nat.le_of_ble_eq_true rfl, Nat.le_of_ble_eq_true rfl⟩) (q_preWVE hK hP hD (q := (RX9, TX9, 15)) (ci := 9) (q0 := 0) rfl rfl [0, 14, 15, 7, 8, 9, 10, 11, 12, 13, 19, 20, 21, 22] (by decide) rfl rfl [8, 3, 4, 5, 6, 7, 10, 11] rfl q_S_bl (q_S_give hE hS (va_free (wc := [((a 0), .inr (9, [.ref (a 1), .ref (a 3), .ref (a 4), .ref (a 7), .ref (a 10), .ref (a 14), .ref (a 16), .ref (a 18), .ref (a 19), .ref (a 21), .ref (a 23), .ref (a 25), .ref (a 27), .ref (a 28), .int (x.2.1 11)])), ((a 14), .inr (0, [.ref (a 15), .ref (a 7)])), ((a 15), .inl ((k 15), 98, .inl (x.1 15))), ((a 7), .inr (5, [.ref (a 8), .ref (a 9), .int (x.2.1 4)])), ((a 8), .inl ((k 8), 8, .inl (x.1 8))), ((a 9), .inl ((k 9), 48, .inl (x.1 9))), ((a 10), .inr (7, [.ref (a 11), .ref (a 12), .ref (a 13), .int (x.2.1 5), .int (x.2.1 6)])), ((a 11), .inl ((k 11), 256, .inl (x.1 11))), ((a 12), .inl ((k 12), 4, .inl (x.1 12))), ((a 13), .inl ((k 13), 64, .inl (x.1 13))), ((a 19), .inr (4, [.ref (a 20), .int (x.2.1 7), .int (x.2.1 8)])), ((a 20), .inl ((k 20), 3920, .inl (x.1 20))), ((a 21), .inr (1, [.ref (a 22), .int (x.2.1 9)])), ((a 22), .inl ((k 22), 300, .inl (x.1 22)))]) hD hS hA [0, 14, 15, 7, 8, 9, 10, 11, 12, 13, 19, 20, 21, 22] rfl))) rfl rfl hl.1 rfl (lv_room (Nat.le_of_ble_eq_true rfl)) dL_law_1250 ⟨by show 45 + j + 0 ≤ 1070; omega, by show 18169 + 6 * j + 0 ≤ 26367; omega⟩) hP hD hS hA [0, 14, 15, 7, 8, 9, 10, 11, 12, 13, 19, 20, 21, 22] rfl (by unfold lw_W; simp only [qxa2, qxa5, qxa6, qxa8, qxa9, qxa11, qxa12, qxa13, qxa15, qxa17, qxa20, qxa22, qxa24, qxa26, qxa28, qxi0, qxi1, qxi2, qxi3, qxi4, qxi5, qxi6, qxi7, qxi8, qxi9, qxi10, qxi11, qxl]; rfl) rfl (by decide) (fun H locs hP hD hS => ?_)
  refine lv_pop hx hb dL_law_1253 rfl ?_
  refine lv_aload_n hx hb dL_law_1254 rfl (lv_at hl 2 rfl) ?_
  refine lv_aload_n hx hb dL_law_1255 rfl (lv_at hl 4 rfl) ?_
  refine lv_iload hx hb dL_law_1256 (lv_at hl 0 rfl) ?_
  refine lv_iconst (v := 1) hx hb dL_law_1258 (by decide) ?_
  refine lv_iadd hx hb dL_law_1259 ?_
  refine q_top (y := nI (6 * j + 1)) (nI_add (6 * j) 1) ?_
  refine va_sld hx hb hX hbl hbA hS (i := (nI (6 * j + 1))) (vp_in_nI (by omega) (by omega)) dL_law_1260 ?_
  refine q_top (y := z 1) (by rw [nI_clamp (by omega), hz]) ?_
  have qya1 : p2.2.1 1 = y.1 1 := by rw [← hp2]; try rfl
  have qya2 : p2.2.1 2 = y.1 2 := by rw [← hp2]; try rfl
  have qya3 : p2.2.1 3 = y.1 3 := by rw [← hp2]; try rfl
  have qya4 : p2.2.1 4 = y.1 4 := by rw [← hp2]; try rfl
  have qya5 : p2.2.1 5 = y.1 5 := by rw [← hp2]; try rfl
  have qya6 : p2.2.1 6 = y.1 6 := by rw [← hp2]; try rfl
  have qya7 : p2.2.1 7 = y.1 7 := by rw [← hp2]; try rfl
  have qya8 : p2.2.1 8 = o2.2.2.1 := by rw [← hp2]; try rfl
  have qya9 : p2.2.1 9 = y.1 9 := by rw [← hp2]; try rfl
  have qya10 : p2.2.1 10 = o2.2.2.2 := by rw [← hp2]; try rfl
  have qya11 : p2.2.1 11 = y.1 11 := by rw [← hp2]; try rfl
  have qya12 : p2.2.1 12 = y.1 12 := by rw [← hp2]; try rfl
  have qya13 : p2.2.1 13 = y.1 13 := by rw [← hp2]; try rfl
  have qya14 : p2.2.1 14 = y.1 14 := by rw [← hp2]; try rfl
  have qyi0 : p2.2.2.1 0 = y.2.1 0 := by rw [← hp2]; try rfl
  have qyi1 : p2.2.2.1 1 = y.2.1 1 := by rw [← hp2]; try rfl
  have qyi2 : p2.2.2.1 2 = y.2.1 2 := by rw [← hp2]; try rfl
  have qyi3 : p2.2.2.1 3 = y.2.1 3 := by rw [← hp2]; try rfl
  have qyi4 : p2.2.2.1 4 = y.2.1 4 := by rw [← hp2]; try rfl
  have qyi5 : p2.2.2.1 5 = y.2.1 5 := by rw [← hp2]; try rfl
  have qyi6 : p2.2.2.1 6 = y.2.1 6 := by rw [← hp2]; try rfl
  have qyi7 : p2.2.2.1 7 = o2.2.1 := by rw [← hp2]; try rfl
  have qyi8 : p2.2.2.1 8 = y.2.1 8 := by rw [← hp2]; try rfl
  have qyl : p2.2.2.2 = y.2.2 := by rw [← hp2]; try rfl
  refine q_goi5 (v := o2.1) (lw_W a k bm km q3 k3 p1.2 p2.2 fo) [none, none, none, none, none, none, none, none, none, none, none, none, none, none, none, none, none, none, none, none, none, none, none, none, none, none, none, none, none, some 0, none, none, none, some 1, some 2, some 3, some 4, some 5, none, some 6, none, none, none, none, none] (va_runV (As := [.int (z 1)]) (rest := []) ⟨hx, hb, hml, hown, hts⟩ (c_X10_perform l dC dI bm km (y.2.1 0) (y.2.1 1) (y.2.1 2) (y.2.1 3) (y.2.1 4) (y.2.1 5) (y.2.1 6) (y.2.1 7) (y.2.1 8) (y.2.2) (y.1 4) (y.1 5) (y.1 6) (y.1 7) (y.1 8) (y.1 10) (z 1) (va_A [((bm 0), .inr (10, [.int (y.2.1 0), .ref (bm 1), .int (y.2.1 1), .int (y.2.1 2), .int (y.2.1 3), .ref (bm 2), .ref (bm 3), .int (y.2.1 4), .ref (bm 4), .ref (bm 5), .int (y.2.1 5), .ref (bm 6), .ref (bm 7), .int (y.2.1 6), .ref (bm 8), .ref (bm 9), .ref (bm 10), .int (y.2.1 7), .long (y.2.2), .ref (bm 11), .ref (bm 12), .ref (bm 13), .ref (bm 14), .int (y.2.1 8)])), ((bm 4), .inl ((km 4), 8, .inl (y.1 4))), ((bm 5), .inl ((km 5), 48, .inl (y.1 5))), ((bm 6), .inl ((km 6), 320, .inl (y.1 6))), ((bm 7), .inl ((km 7), 5, .inl (y.1 7))), ((bm 8), .inl ((km 8), 279, .inl (y.1 8))), ((bm 10), .inl ((km 10), 11160, .inl (y.1 10)))] H.size) o2 hF2) (cwV 1 hts (q_lV m_1341 m_1342 m_1343 m_5 m_1344) rfl rfl rfl hdV_yX10_perform_1 ⟨Nat.le_of_ble_eq_true rfl, Nat.le_of_ble_eq_true rfl⟩) (q_preWV hK hP hD (q := (RX10, TX10, 24)) (ci := 10) (q0 := 29) rfl rfl [29, 33, 34, 35, 36, 37, 39] (by decide) rfl rfl [18, 19, 20, 21, 22, 24] rfl) rfl rfl hl.1 rfl (lv_room (Nat.le_of_ble_eq_true rfl)) dL_law_1261 ⟨by show 45 + j + 0 ≤ 1070; omega, by show 18169 + 6 * j + 0 ≤ 26367; omega⟩) hP hD hS hA [29, 33, 34, 35, 36, 37, 39] rfl (by unfold lw_W; simp only [qya1, qya2, qya3, qya4, qya5, qya6, qya7, qya8, qya9, qya10, qya11, qya12, qya13, qya14, qyi0, qyi1, qyi2, qyi3, qyi4, qyi5, qyi6, qyi7, qyi8, qyl]; rfl) rfl (by decide) (fun H locs hP hD hS => ?_)
  refine lv_pop hx hb dL_law_1264 rfl ?_
  refine lv_goto (tgt := 1344) hx hb dL_law_1265 (by decide) ?_
  refine W.widen (k := 45 + j + 1) (n := 18169 + 6 * j + 6) (by omega) (by omega) ?_
  exact kont _ H locs ls hP hD hS (lv_sub hl [0, 1, 2, 3, 4] rfl)

set_option maxHeartbeats 4000000 in
set_option maxRecDepth 100000 in
theorem lw_case_33 {p : Program} {l : Launch} {e : Env} {s : State} {m : MethodId} {below : List Frame} {meth : Method} {c : Code} {dC : Nat → ClassId} {dI : Nat → Nat → Nat} {b L : Nat} {xs : Nat → Int32} (C0 : lw_At p s m meth c b L xs) (ts ks kv : Nat → Nat) (sa : Nat) (hE : q_S ts ks kv (fun q : Nat => s.heap.size ≤ q) s) (hEX : q_X sa s) (hlt : l.stackTraces = false) {a : Nat → Nat} {k : Nat → ClassId} {bm : Nat → Nat} {km : Nat → ClassId} {q3 : Nat} {k3 : ClassId} {j : Nat} (hj : 6 * j + 6 ≤ L) (hL : L ≤ 3072) {z : Nat → Int32} (hz : ∀ q, z q = xs (6 * j + q)) {x y : XS} {p1 p2 : Int32 × XS} (h1 : SX_33 x z = some p1) (h2 : SY_33 y z = some p2) {fo : Nat → Int64} {H : Heap} {locs : List Loc} {ls : Array Slot} (hK : va_K (dC, dI) vwCl (lw_T k km k3) s) (hP : va_P (dC, dI) vwCl (lw_W a k bm km q3 k3 x y fo) H) (hD : va_D (fun q : Nat => s.heap.size ≤ q) (lw_W a k bm km q3 k3 x y fo)) (hS : va_S (fun q : Nat => s.heap.size ≤ q) s.heap H locs) (hl : lv_has ls 7 [(4, .int (nI (6 * j))), (3, .ref q3), (2, .ref (bm 0)), (1, .ref (a 0)), (0, .ref b)]) (kont : ∀ (fo : Nat → Int64) (H : Heap) (locs : List Loc) (ls : Array Slot), va_P (dC, dI) vwCl (lw_W a k bm km q3 k3 p1.2 p2.2 fo) H → va_D (fun q : Nat => s.heap.size ≤ q) (lw_W a k bm km q3 k3 p1.2 p2.2 fo) → va_S (fun q : Nat => s.heap.size ≤ q) s.heap H locs → lv_has ls 7 [(4, .int (nI (6 * j))), (3, .ref q3), (2, .ref (bm 0)), (1, .ref (a 0)), (0, .ref b)] → W p l e room_1 s m #[Value.ref b] below meth c H locs (45 + j + 1) (18169 + 6 * j + 6) (lw_Z below #[Value.ref b] s) (F0 m 1344 ls [])) : W p l e room_1 s m #[Value.ref b] below meth c H locs (45 + j) (18169 + 6 * j) (lw_Z below #[Value.ref b] s) (F0 m 1268 ls []) := by
  obtain ⟨hx, hb, hr, hml, hown, hts, hX, hbl, hlocks, hgv⟩ := C0
  have hown : s.vm.findClass RL = some m.cls := hown
  have hA : ∀ q : Nat, s.heap.size ≤ q → (fun q : Nat => s.heap.size ≤ q) q := fun _ h => h
  have hbA : ¬ (fun q : Nat => s.heap.size ≤ q) b := Nat.not_le.mpr hbl
  unfold SX_33 at h1
  unfold SY_33 at h2
  obtain ⟨o1, hF1, h1⟩ := q_bi h1
  have hp1 := Option.some.inj h1
  obtain ⟨o2, hF2, h2⟩ := q_bi h2
  have hp2 := Option.some.inj h2
  refine lv_aload_n hx hb dL_law_1268 rfl (lv_at hl 3 rfl) ?_
  refine lv_aload_n hx hb dL_law_1269 rfl (lv_at hl 4 rfl) ?_
  refine lv_iload hx hb dL_law_1270 (lv_at hl 0 rfl) ?_
  refine lv_iconst (v := 1) hx hb dL_law_1272 (by decide) ?_
  refine lv_iadd hx hb dL_law_1273 ?_
  refine q_top (y := nI (6 * j + 1)) (nI_add (6 * j) 1) ?_
  refine va_sld hx hb hX hbl hbA hS (i := (nI (6 * j + 1))) (vp_in_nI (by omega) (by omega)) dL_law_1274 ?_
  refine q_top (y := z 1) (by rw [nI_clamp (by omega), hz]) ?_
  refine q_goi (v := o1) (va_runV (As := [.int (z 1)]) (rest := []) ⟨hx, hb, hml, hown, hts⟩ (c_X9_all l dC dI a k (x.2.1 4) (x.2.1 11) (x.1 8) (x.1 9) (x.1 15) (z 1) o1 hF1) (cwV 1 hts (q_lV m_1345 m_1346 m_1347 m_2 m_1348) rfl rfl rfl hdV_yX9_all_1 ⟨Nat.le_of_ble_eq_true rfl, Nat.le_of_ble_eq_true rfl⟩) (q_preV hK hP (q := (RX9, TX9, 15)) (ci := 9) (q0 := 0) rfl rfl [0, 14, 15, 7, 8, 9] rfl [8, 3, 4] rfl) rfl rfl hl.1 rfl (lv_room (Nat.le_of_ble_eq_true rfl)) dL_law_1275 ⟨by show 45 + j + 0 ≤ 1070; omega, by show 18169 + 6 * j + 0 ≤ 26367; omega⟩) hP hS (fun H locs hP hS => ?_)
  have hP : va_P (dC, dI) vwCl (lw_W a k bm km q3 k3 p1.2 y fo) H := by rw [← hp1]; exact hP
  have hD : va_D (fun q : Nat => s.heap.size ≤ q) (lw_W a k bm km q3 k3 p1.2 y fo) := by rw [← hp1]; exact hD
  refine lv_pop hx hb dL_law_1278 rfl ?_
  refine lv_aload_n hx hb dL_law_1279 rfl (lv_at hl 2 rfl) ?_
  refine lv_aload_n hx hb dL_law_1280 rfl (lv_at hl 4 rfl) ?_
  refine lv_iload hx hb dL_law_1281 (lv_at hl 0 rfl) ?_
  refine lv_iconst (v := 1) hx hb dL_law_1283 (by decide) ?_
  refine lv_iadd hx hb dL_law_1284 ?_
  refine q_top (y := nI (6 * j + 1)) (nI_add (6 * j) 1) ?_
  refine va_sld hx hb hX hbl hbA hS (i := (nI (6 * j + 1))) (vp_in_nI (by omega) (by omega)) dL_law_1285 ?_
  refine q_top (y := z 1) (by rw [nI_clamp (by omega), hz]) ?_
  have qya1 : p2.2.1 1 = y.1 1 := by rw [← hp2]; try rfl
  have qya2 : p2.2.1 2 = y.1 2 := by rw [← hp2]; try rfl
  have qya3 : p2.2.1 3 = y.1 3 := by rw [← hp2]; try rfl
  have qya4 : p2.2.1 4 = y.1 4 := by rw [← hp2]; try rfl
  have qya5 : p2.2.1 5 = y.1 5 := by rw [← hp2]; try rfl
  have qya6 : p2.2.1 6 = y.1 6 := by rw [← hp2]; try rfl
  have qya7 : p2.2.1 7 = y.1 7 := by rw [← hp2]; try rfl
  have qya8 : p2.2.1 8 = o2.2 := by rw [← hp2]; try rfl
  have qya9 : p2.2.1 9 = y.1 9 := by rw [← hp2]; try rfl
  have qya10 : p2.2.1 10 = y.1 10 := by rw [← hp2]; try rfl
  have qya11 : p2.2.1 11 = y.1 11 := by rw [← hp2]; try rfl
  have qya12 : p2.2.1 12 = y.1 12 := by rw [← hp2]; try rfl
  have qya13 : p2.2.1 13 = y.1 13 := by rw [← hp2]; try rfl
  have qya14 : p2.2.1 14 = y.1 14 := by rw [← hp2]; try rfl
  have qyi0 : p2.2.2.1 0 = y.2.1 0 := by rw [← hp2]; try rfl
  have qyi1 : p2.2.2.1 1 = y.2.1 1 := by rw [← hp2]; try rfl
  have qyi2 : p2.2.2.1 2 = y.2.1 2 := by rw [← hp2]; try rfl
  have qyi3 : p2.2.2.1 3 = y.2.1 3 := by rw [← hp2]; try rfl
  have qyi4 : p2.2.2.1 4 = y.2.1 4 := by rw [← hp2]; try rfl
  have qyi5 : p2.2.2.1 5 = y.2.1 5 := by rw [← hp2]; try rfl
  have qyi6 : p2.2.2.1 6 = y.2.1 6 := by rw [← hp2]; try rfl
  have qyi7 : p2.2.2.1 7 = y.2.1 7 := by rw [← hp2]; try rfl
  have qyi8 : p2.2.2.1 8 = y.2.1 8 := by rw [← hp2]; try rfl
  have qyl : p2.2.2.2 = y.2.2 := by rw [← hp2]; try rfl
  refine q_goi5 (v := o2.1) (lw_W a k bm km q3 k3 p1.2 p2.2 fo) [none, none, none, none, none, none, none, none, none, none, none, none, none, none, none, none, none, none, none, none, none, none, none, none, none, none, none, none, none, some 0, none, none, none, some 1, some 2, none, none, some 3, none, none, none, none, none, none, none] (va_runV (As := [.int (z 1)]) (rest := []) ⟨hx, hb, hml, hown, hts⟩ (c_X10_all l dC dI bm km (y.2.1 0) (y.2.1 1) (y.2.1 2) (y.2.1 3) (y.2.1 4) (y.2.1 5) (y.2.1 6) (y.2.1 7) (y.2.1 8) (y.2.2) (y.1 4) (y.1 5) (y.1 8) (z 1) (va_A [((bm 0), .inr (10, [.int (y.2.1 0), .ref (bm 1), .int (y.2.1 1), .int (y.2.1 2), .int (y.2.1 3), .ref (bm 2), .ref (bm 3), .int (y.2.1 4), .ref (bm 4), .ref (bm 5), .int (y.2.1 5), .ref (bm 6), .ref (bm 7), .int (y.2.1 6), .ref (bm 8), .ref (bm 9), .ref (bm 10), .int (y.2.1 7), .long (y.2.2), .ref (bm 11), .ref (bm 12), .ref (bm 13), .ref (bm 14), .int (y.2.1 8)])), ((bm 4), .inl ((km 4), 8, .inl (y.1 4))), ((bm 5), .inl ((km 5), 48, .inl (y.1 5))), ((bm 8), .inl ((km 8), 279, .inl (y.1 8)))] H.size) o2 hF2) (cwV 1 hts (q_lV m_1373 m_1374 m_1375 m_5 m_1376) rfl rfl rfl hdV_yX10_all_1 ⟨Nat.le_of_ble_eq_true rfl, Nat.le_of_ble_eq_true rfl⟩) (q_preWV hK hP hD (q := (RX10, TX10, 24)) (ci := 10) (q0 := 29) rfl rfl [29, 33, 34, 37] (by decide) rfl rfl [18, 19, 22] rfl) rfl rfl hl.1 rfl (lv_room (Nat.le_of_ble_eq_true rfl)) dL_law_1286 ⟨by show 45 + j + 0 ≤ 1070; omega, by show 18169 + 6 * j + 0 ≤ 26367; omega⟩) hP hD hS hA [29, 33, 34, 37] rfl (by unfold lw_W; simp only [qya1, qya2, qya3, qya4, qya5, qya6, qya7, qya8, qya9, qya10, qya11, qya12, qya13, qya14, qyi0, qyi1, qyi2, qyi3, qyi4, qyi5, qyi6, qyi7, qyi8, qyl]; rfl) rfl (by decide) (fun H locs hP hD hS => ?_)
  refine lv_pop hx hb dL_law_1289 rfl ?_
  refine lv_goto (tgt := 1344) hx hb dL_law_1290 (by decide) ?_
  refine W.widen (k := 45 + j + 1) (n := 18169 + 6 * j + 6) (by omega) (by omega) ?_
  exact kont _ H locs ls hP hD hS (lv_sub hl [0, 1, 2, 3, 4] rfl)

set_option maxHeartbeats 4000000 in
set_option maxRecDepth 100000 in
theorem lw_case_34 {p : Program} {l : Launch} {e : Env} {s : State} {m : MethodId} {below : List Frame} {meth : Method} {c : Code} {dC : Nat → ClassId} {dI : Nat → Nat → Nat} {b L : Nat} {xs : Nat → Int32} (C0 : lw_At p s m meth c b L xs) (ts ks kv : Nat → Nat) (sa : Nat) (hE : q_S ts ks kv (fun q : Nat => s.heap.size ≤ q) s) (hEX : q_X sa s) (hlt : l.stackTraces = false) {a : Nat → Nat} {k : Nat → ClassId} {bm : Nat → Nat} {km : Nat → ClassId} {q3 : Nat} {k3 : ClassId} {j : Nat} (hj : 6 * j + 6 ≤ L) (hL : L ≤ 3072) {z : Nat → Int32} (hz : ∀ q, z q = xs (6 * j + q)) {x y : XS} {p1 p2 : Int32 × XS} (h1 : SX_34 x z = some p1) (h2 : SY_34 y z = some p2) {fo : Nat → Int64} {H : Heap} {locs : List Loc} {ls : Array Slot} (hK : va_K (dC, dI) vwCl (lw_T k km k3) s) (hP : va_P (dC, dI) vwCl (lw_W a k bm km q3 k3 x y fo) H) (hD : va_D (fun q : Nat => s.heap.size ≤ q) (lw_W a k bm km q3 k3 x y fo)) (hS : va_S (fun q : Nat => s.heap.size ≤ q) s.heap H locs) (hl : lv_has ls 7 [(4, .int (nI (6 * j))), (3, .ref q3), (2, .ref (bm 0)), (1, .ref (a 0)), (0, .ref b)]) (kont : ∀ (fo : Nat → Int64) (H : Heap) (locs : List Loc) (ls : Array Slot), va_P (dC, dI) vwCl (lw_W a k bm km q3 k3 p1.2 p2.2 fo) H → va_D (fun q : Nat => s.heap.size ≤ q) (lw_W a k bm km q3 k3 p1.2 p2.2 fo) → va_S (fun q : Nat => s.heap.size ≤ q) s.heap H locs → lv_has ls 7 [(4, .int (nI (6 * j))), (3, .ref q3), (2, .ref (bm 0)), (1, .ref (a 0)), (0, .ref b)] → W p l e room_1 s m #[Value.ref b] below meth c H locs (45 + j + 1) (18169 + 6 * j + 6) (lw_Z below #[Value.ref b] s) (F0 m 1344 ls [])) : W p l e room_1 s m #[Value.ref b] below meth c H locs (45 + j) (18169 + 6 * j) (lw_Z below #[Value.ref b] s) (F0 m 1293 ls []) := by
  obtain ⟨hx, hb, hr, hml, hown, hts, hX, hbl, hlocks, hgv⟩ := C0
  have hown : s.vm.findClass RL = some m.cls := hown
  have hA : ∀ q : Nat, s.heap.size ≤ q → (fun q : Nat => s.heap.size ≤ q) q := fun _ h => h
  have hbA : ¬ (fun q : Nat => s.heap.size ≤ q) b := Nat.not_le.mpr hbl
  unfold SX_34 at h1
  unfold SY_34 at h2
  obtain ⟨o1, hF1, h1⟩ := q_bi h1
  have hp1 := Option.some.inj h1
  obtain ⟨o2, hF2, h2⟩ := q_bi h2
  have hp2 := Option.some.inj h2
  refine lv_aload_n hx hb dL_law_1293 rfl (lv_at hl 3 rfl) ?_
  have qxa2 : p1.2.1 2 = x.1 2 := by rw [← hp1]; try rfl
  have qxa5 : p1.2.1 5 = x.1 5 := by rw [← hp1]; try rfl
  have qxa6 : p1.2.1 6 = x.1 6 := by rw [← hp1]; try rfl
  have qxa8 : p1.2.1 8 = x.1 8 := by rw [← hp1]; try rfl
  have qxa9 : p1.2.1 9 = x.1 9 := by rw [← hp1]; try rfl
  have qxa11 : p1.2.1 11 = x.1 11 := by rw [← hp1]; try rfl
  have qxa12 : p1.2.1 12 = x.1 12 := by rw [← hp1]; try rfl
  have qxa13 : p1.2.1 13 = x.1 13 := by rw [← hp1]; try rfl
  have qxa15 : p1.2.1 15 = x.1 15 := by rw [← hp1]; try rfl
  have qxa17 : p1.2.1 17 = x.1 17 := by rw [← hp1]; try rfl
  have qxa20 : p1.2.1 20 = x.1 20 := by rw [← hp1]; try rfl
  have qxa22 : p1.2.1 22 = x.1 22 := by rw [← hp1]; try rfl
  have qxa24 : p1.2.1 24 = o1.2.2.2.1 := by rw [← hp1]; try rfl
  have qxa26 : p1.2.1 26 = o1.2.2.2.2 := by rw [← hp1]; try rfl
  have qxa28 : p1.2.1 28 = x.1 28 := by rw [← hp1]; try rfl
  have qxi0 : p1.2.2.1 0 = x.2.1 0 := by rw [← hp1]; try rfl
  have qxi1 : p1.2.2.1 1 = x.2.1 1 := by rw [← hp1]; try rfl
  have qxi2 : p1.2.2.1 2 = x.2.1 2 := by rw [← hp1]; try rfl
  have qxi3 : p1.2.2.1 3 = x.2.1 3 := by rw [← hp1]; try rfl
  have qxi4 : p1.2.2.1 4 = x.2.1 4 := by rw [← hp1]; try rfl
  have qxi5 : p1.2.2.1 5 = x.2.1 5 := by rw [← hp1]; try rfl
  have qxi6 : p1.2.2.1 6 = x.2.1 6 := by rw [← hp1]; try rfl
  have qxi7 : p1.2.2.1 7 = x.2.1 7 := by rw [← hp1]; try rfl
  have qxi8 : p1.2.2.1 8 = x.2.1 8 := by rw [← hp1]; try rfl
  have qxi9 : p1.2.2.1 9 = x.2.1 9 := by rw [← hp1]; try rfl
  have qxi10 : p1.2.2.1 10 = o1.2.1 := by rw [← hp1]; try rfl
  have qxi11 : p1.2.2.1 11 = o1.2.2.1 := by rw [← hp1]; try rfl
  have qxl : p1.2.2.2 = x.2.2 := by rw [← hp1]; try rfl
  refine q_goi5 (v := o1.1) (lw_W a k bm km q3 k3 p1.2 y fo) [some 0, none, none, none, none, none, none, some 3, some 4, some 5, none, none, none, none, some 1, some 2, none, none, none, none, none, some 6, some 7, some 8, some 9, some 10, some 11, none, none, none, none, none, none, none, none, none, none, none, none, none, none, none, none, none, none] (va_runV (As := []) (rest := []) ⟨hx, hb, hml, hown, hts⟩ (c_X9_image l dC dI a k (x.2.1 4) (x.2.1 9) (x.2.1 10) (x.2.1 11) (x.1 8) (x.1 9) (x.1 15) (x.1 22) (x.1 24) (x.1 26) (va_A [((a 0), .inr (9, [.ref (a 1), .ref (a 3), .ref (a 4), .ref (a 7), .ref (a 10), .ref (a 14), .ref (a 16), .ref (a 18), .ref (a 19), .ref (a 21), .ref (a 23), .ref (a 25), .ref (a 27), .ref (a 28), .int (x.2.1 11)])), ((a 14), .inr (0, [.ref (a 15), .ref (a 7)])), ((a 15), .inl ((k 15), 98, .inl (x.1 15))), ((a 7), .inr (5, [.ref (a 8), .ref (a 9), .int (x.2.1 4)])), ((a 8), .inl ((k 8), 8, .inl (x.1 8))), ((a 9), .inl ((k 9), 48, .inl (x.1 9))), ((a 21), .inr (1, [.ref (a 22), .int (x.2.1 9)])), ((a 22), .inl ((k 22), 300, .inl (x.1 22))), ((a 23), .inr (0, [.ref (a 24), .ref (a 7)])), ((a 24), .inl ((k 24), 98, .inl (x.1 24))), ((a 25), .inr (1, [.ref (a 26), .int (x.2.1 10)])), ((a 26), .inl ((k 26), 300, .inl (x.1 26)))] H.size) o1 hF1) (cwV 0 hts (q_lV m_1394 m_1395 m_1396 m_2 m_1397) rfl rfl rfl hdV_yX9_image_0 ⟨Nat.le_of_ble_eq_true rfl, Nat.le_of_ble_eq_true rfl⟩) (q_preWV hK hP hD (q := (RX9, TX9, 15)) (ci := 9) (q0 := 0) rfl rfl [0, 14, 15, 7, 8, 9, 21, 22, 23, 24, 25, 26] (by decide) rfl rfl [8, 3, 4, 11, 12, 13] rfl) rfl rfl hl.1 rfl (lv_room (Nat.le_of_ble_eq_true rfl)) dL_law_1294 ⟨by show 45 + j + 0 ≤ 1070; omega, by show 18169 + 6 * j + 0 ≤ 26367; omega⟩) hP hD hS hA [0, 14, 15, 7, 8, 9, 21, 22, 23, 24, 25, 26] rfl (by unfold lw_W; simp only [qxa2, qxa5, qxa6, qxa8, qxa9, qxa11, qxa12, qxa13, qxa15, qxa17, qxa20, qxa22, qxa24, qxa26, qxa28, qxi0, qxi1, qxi2, qxi3, qxi4, qxi5, qxi6, qxi7, qxi8, qxi9, qxi10, qxi11, qxl]; rfl) rfl (by decide) (fun H locs hP hD hS => ?_)
  refine lv_pop hx hb dL_law_1297 rfl ?_
  refine lv_aload_n hx hb dL_law_1298 rfl (lv_at hl 2 rfl) ?_
  have qya1 : p2.2.1 1 = y.1 1 := by rw [← hp2]; try rfl
  have qya2 : p2.2.1 2 = y.1 2 := by rw [← hp2]; try rfl
  have qya3 : p2.2.1 3 = y.1 3 := by rw [← hp2]; try rfl
  have qya4 : p2.2.1 4 = y.1 4 := by rw [← hp2]; try rfl
  have qya5 : p2.2.1 5 = y.1 5 := by rw [← hp2]; try rfl
  have qya6 : p2.2.1 6 = y.1 6 := by rw [← hp2]; try rfl
  have qya7 : p2.2.1 7 = y.1 7 := by rw [← hp2]; try rfl
  have qya8 : p2.2.1 8 = y.1 8 := by rw [← hp2]; try rfl
  have qya9 : p2.2.1 9 = y.1 9 := by rw [← hp2]; try rfl
  have qya10 : p2.2.1 10 = y.1 10 := by rw [← hp2]; try rfl
  have qya11 : p2.2.1 11 = y.1 11 := by rw [← hp2]; try rfl
  have qya12 : p2.2.1 12 = y.1 12 := by rw [← hp2]; try rfl
  have qya13 : p2.2.1 13 = y.1 13 := by rw [← hp2]; try rfl
  have qya14 : p2.2.1 14 = o2.2.2 := by rw [← hp2]; try rfl
  have qyi0 : p2.2.2.1 0 = y.2.1 0 := by rw [← hp2]; try rfl
  have qyi1 : p2.2.2.1 1 = y.2.1 1 := by rw [← hp2]; try rfl
  have qyi2 : p2.2.2.1 2 = y.2.1 2 := by rw [← hp2]; try rfl
  have qyi3 : p2.2.2.1 3 = y.2.1 3 := by rw [← hp2]; try rfl
  have qyi4 : p2.2.2.1 4 = y.2.1 4 := by rw [← hp2]; try rfl
  have qyi5 : p2.2.2.1 5 = y.2.1 5 := by rw [← hp2]; try rfl
  have qyi6 : p2.2.2.1 6 = y.2.1 6 := by rw [← hp2]; try rfl
  have qyi7 : p2.2.2.1 7 = y.2.1 7 := by rw [← hp2]; try rfl
  have qyi8 : p2.2.2.1 8 = o2.2.1 := by rw [← hp2]; try rfl
  have qyl : p2.2.2.2 = y.2.2 := by rw [← hp2]; try rfl
  refine q_goi5 (v := o2.1) (lw_W a k bm km q3 k3 p1.2 p2.2 fo) [none, none, none, none, none, none, none, none, none, none, none, none, none, none, none, none, none, none, none, none, none, none, none, none, none, none, none, none, none, some 0, none, none, none, none, none, none, none, some 1, none, none, none, none, none, some 2, none] (va_runV (As := []) (rest := []) ⟨hx, hb, hml, hown, hts⟩ (c_X10_image l dC dI bm km (y.2.1 0) (y.2.1 1) (y.2.1 2) (y.2.1 3) (y.2.1 4) (y.2.1 5) (y.2.1 6) (y.2.1 7) (y.2.1 8) (y.2.2) (y.1 8) (y.1 14) (va_A [((bm 0), .inr (10, [.int (y.2.1 0), .ref (bm 1), .int (y.2.1 1), .int (y.2.1 2), .int (y.2.1 3), .ref (bm 2), .ref (bm 3), .int (y.2.1 4), .ref (bm 4), .ref (bm 5), .int (y.2.1 5), .ref (bm 6), .ref (bm 7), .int (y.2.1 6), .ref (bm 8), .ref (bm 9), .ref (bm 10), .int (y.2.1 7), .long (y.2.2), .ref (bm 11), .ref (bm 12), .ref (bm 13), .ref (bm 14), .int (y.2.1 8)])), ((bm 8), .inl ((km 8), 279, .inl (y.1 8))), ((bm 14), .inl ((km 14), 279, .inl (y.1 14)))] H.size) o2 hF2) (cwV 0 hts (q_lV m_1403 m_1404 m_1405 m_5 m_1406) rfl rfl rfl hdV_yX10_image_0 ⟨Nat.le_of_ble_eq_true rfl, Nat.le_of_ble_eq_true rfl⟩) (q_preWV hK hP hD (q := (RX10, TX10, 24)) (ci := 10) (q0 := 29) rfl rfl [29, 37, 43] (by decide) rfl rfl [22, 28] rfl) rfl rfl hl.1 rfl (lv_room (Nat.le_of_ble_eq_true rfl)) dL_law_1299 ⟨by show 45 + j + 0 ≤ 1070; omega, by show 18169 + 6 * j + 0 ≤ 26367; omega⟩) hP hD hS hA [29, 37, 43] rfl (by unfold lw_W; simp only [qya1, qya2, qya3, qya4, qya5, qya6, qya7, qya8, qya9, qya10, qya11, qya12, qya13, qya14, qyi0, qyi1, qyi2, qyi3, qyi4, qyi5, qyi6, qyi7, qyi8, qyl]; rfl) rfl (by decide) (fun H locs hP hD hS => ?_)
  refine lv_pop hx hb dL_law_1302 rfl ?_
  refine lv_goto (tgt := 1344) hx hb dL_law_1303 (by decide) ?_
  refine W.widen (k := 45 + j + 1) (n := 18169 + 6 * j + 6) (by omega) (by omega) ?_
  exact kont _ H locs ls hP hD hS (lv_sub hl [0, 1, 2, 3, 4] rfl)

set_option maxHeartbeats 4000000 in
set_option maxRecDepth 100000 in
theorem lw_case_35 {p : Program} {l : Launch} {e : Env} {s : State} {m : MethodId} {below : List Frame} {meth : Method} {c : Code} {dC : Nat → ClassId} {dI : Nat → Nat → Nat} {b L : Nat} {xs : Nat → Int32} (C0 : lw_At p s m meth c b L xs) (ts ks kv : Nat → Nat) (sa : Nat) (hE : q_S ts ks kv (fun q : Nat => s.heap.size ≤ q) s) (hEX : q_X sa s) (hlt : l.stackTraces = false) {a : Nat → Nat} {k : Nat → ClassId} {bm : Nat → Nat} {km : Nat → ClassId} {q3 : Nat} {k3 : ClassId} {j : Nat} (hj : 6 * j + 6 ≤ L) (hL : L ≤ 3072) {z : Nat → Int32} (hz : ∀ q, z q = xs (6 * j + q)) {x y : XS} {p1 p2 : Int32 × XS} (h1 : SX_35 x z = some p1) (h2 : SY_35 y z = some p2) {fo : Nat → Int64} {H : Heap} {locs : List Loc} {ls : Array Slot} (hK : va_K (dC, dI) vwCl (lw_T k km k3) s) (hP : va_P (dC, dI) vwCl (lw_W a k bm km q3 k3 x y fo) H) (hD : va_D (fun q : Nat => s.heap.size ≤ q) (lw_W a k bm km q3 k3 x y fo)) (hS : va_S (fun q : Nat => s.heap.size ≤ q) s.heap H locs) (hl : lv_has ls 7 [(4, .int (nI (6 * j))), (3, .ref q3), (2, .ref (bm 0)), (1, .ref (a 0)), (0, .ref b)]) (kont : ∀ (fo : Nat → Int64) (H : Heap) (locs : List Loc) (ls : Array Slot), va_P (dC, dI) vwCl (lw_W a k bm km q3 k3 p1.2 p2.2 fo) H → va_D (fun q : Nat => s.heap.size ≤ q) (lw_W a k bm km q3 k3 p1.2 p2.2 fo) → va_S (fun q : Nat => s.heap.size ≤ q) s.heap H locs → lv_has ls 7 [(4, .int (nI (6 * j))), (3, .ref q3), (2, .ref (bm 0)), (1, .ref (a 0)), (0, .ref b)] → W p l e room_1 s m #[Value.ref b] below meth c H locs (45 + j + 1) (18169 + 6 * j + 6) (lw_Z below #[Value.ref b] s) (F0 m 1344 ls [])) : W p l e room_1 s m #[Value.ref b] below meth c H locs (45 + j) (18169 + 6 * j) (lw_Z below #[Value.ref b] s) (F0 m 1306 ls []) := by
  obtain ⟨hx, hb, hr, hml, hown, hts, hX, hbl, hlocks, hgv⟩ := C0
  have hown : s.vm.findClass RL = some m.cls := hown
  have hA : ∀ q : Nat, s.heap.size ≤ q → (fun q : Nat => s.heap.size ≤ q) q := fun _ h => h
  have hbA : ¬ (fun q : Nat => s.heap.size ≤ q) b := Nat.not_le.mpr hbl
  unfold SX_35 at h1
  unfold SY_35 at h2
  obtain ⟨o1, hF1, h1⟩ := q_bi h1
  have hp1 := Option.some.inj h1
  obtain ⟨o2, hF2, h2⟩ := q_bi h2
  have hp2 := Option.some.inj h2
  refine lv_aload_n hx hb dL_law_1306 rfl (lv_at hl 3 rfl) ?_
  have qxa2 : p1.2.1 2 = x.1 2 := by rw [← hp1]; try rfl
  have qxa5 : p1.2.1 5 = x.1 5 := by rw [← hp1]; try rfl
  have qxa6 : p1.2.1 6 = x.1 6 := by rw [← hp1]; try rfl
  have qxa8 : p1.2.1 8 = x.1 8 := by rw [← hp1]; try rfl
  have qxa9 : p1.2.1 9 = x.1 9 := by rw [← hp1]; try rfl
  have qxa11 : p1.2.1 11 = x.1 11 := by rw [← hp1]; try rfl
  have qxa12 : p1.2.1 12 = x.1 12 := by rw [← hp1]; try rfl
  have qxa13 : p1.2.1 13 = x.1 13 := by rw [← hp1]; try rfl
  have qxa15 : p1.2.1 15 = o1.2.2.2.1 := by rw [← hp1]; try rfl
  have qxa17 : p1.2.1 17 = x.1 17 := by rw [← hp1]; try rfl
  have qxa20 : p1.2.1 20 = x.1 20 := by rw [← hp1]; try rfl
  have qxa22 : p1.2.1 22 = o1.2.2.2.2 := by rw [← hp1]; try rfl
  have qxa24 : p1.2.1 24 = x.1 24 := by rw [← hp1]; try rfl
  have qxa26 : p1.2.1 26 = x.1 26 := by rw [← hp1]; try rfl
  have qxa28 : p1.2.1 28 = x.1 28 := by rw [← hp1]; try rfl
  have qxi0 : p1.2.2.1 0 = x.2.1 0 := by rw [← hp1]; try rfl
  have qxi1 : p1.2.2.1 1 = x.2.1 1 := by rw [← hp1]; try rfl
  have qxi2 : p1.2.2.1 2 = x.2.1 2 := by rw [← hp1]; try rfl
  have qxi3 : p1.2.2.1 3 = x.2.1 3 := by rw [← hp1]; try rfl
  have qxi4 : p1.2.2.1 4 = x.2.1 4 := by rw [← hp1]; try rfl
  have qxi5 : p1.2.2.1 5 = x.2.1 5 := by rw [← hp1]; try rfl
  have qxi6 : p1.2.2.1 6 = x.2.1 6 := by rw [← hp1]; try rfl
  have qxi7 : p1.2.2.1 7 = x.2.1 7 := by rw [← hp1]; try rfl
  have qxi8 : p1.2.2.1 8 = o1.2.1 := by rw [← hp1]; try rfl
  have qxi9 : p1.2.2.1 9 = o1.2.2.1 := by rw [← hp1]; try rfl
  have qxi10 : p1.2.2.1 10 = x.2.1 10 := by rw [← hp1]; try rfl
  have qxi11 : p1.2.2.1 11 = x.2.1 11 := by rw [← hp1]; try rfl
  have qxl : p1.2.2.2 = x.2.2 := by rw [← hp1]; try rfl
  refine q_goi5 (v := o1.1) (lw_W a k bm km q3 k3 p1.2 y fo) [some 0, none, none, none, none, none, none, some 3, some 4, some 5, none, none, none, none, some 1, some 2, none, none, none, some 6, some 7, some 8, some 9, some 10, some 11, some 12, some 13, none, none, none, none, none, none, none, none, none, none, none, none, none, none, none, none, none, none] (va_runV (As := []) (rest := []) ⟨hx, hb, hml, hown, hts⟩ (c_X9_back l dC dI a k (x.2.1 4) (x.2.1 7) (x.2.1 8) (x.2.1 9) (x.2.1 10) (x.2.1 11) (x.1 8) (x.1 9) (x.1 15) (x.1 20) (x.1 22) (x.1 24) (x.1 26) (va_A [((a 0), .inr (9, [.ref (a 1), .ref (a 3), .ref (a 4), .ref (a 7), .ref (a 10), .ref (a 14), .ref (a 16), .ref (a 18), .ref (a 19), .ref (a 21), .ref (a 23), .ref (a 25), .ref (a 27), .ref (a 28), .int (x.2.1 11)])), ((a 14), .inr (0, [.ref (a 15), .ref (a 7)])), ((a 15), .inl ((k 15), 98, .inl (x.1 15))), ((a 7), .inr (5, [.ref (a 8), .ref (a 9), .int (x.2.1 4)])), ((a 8), .inl ((k 8), 8, .inl (x.1 8))), ((a 9), .inl ((k 9), 48, .inl (x.1 9))), ((a 19), .inr (4, [.ref (a 20), .int (x.2.1 7), .int (x.2.1 8)])), ((a 20), .inl ((k 20), 3920, .inl (x.1 20))), ((a 21), .inr (1, [.ref (a 22), .int (x.2.1 9)])), ((a 22), .inl ((k 22), 300, .inl (x.1 22))), ((a 23), .inr (0, [.ref (a 24), .ref (a 7)])), ((a 24), .inl ((k 24), 98, .inl (x.1 24))), ((a 25), .inr (1, [.ref (a 26), .int (x.2.1 10)])), ((a 26), .inl ((k 26), 300, .inl (x.1 26)))] H.size) o1 hF1) (cwV 0 hts (q_lV m_1407 m_1408 m_1409 m_2 m_1410) rfl rfl rfl hdV_yX9_back_0 ⟨Nat.le_of_ble_eq_true rfl, Nat.le_of_ble_eq_true rfl⟩) (q_preWV hK hP hD (q := (RX9, TX9, 15)) (ci := 9) (q0 := 0) rfl rfl [0, 14, 15, 7, 8, 9, 19, 20, 21, 22, 23, 24, 25, 26] (by decide) rfl rfl [8, 3, 4, 10, 11, 12, 13] rfl) rfl rfl hl.1 rfl (lv_room (Nat.le_of_ble_eq_true rfl)) dL_law_1307 ⟨by show 45 + j + 0 ≤ 1070; omega, by show 18169 + 6 * j + 0 ≤ 26367; omega⟩) hP hD hS hA [0, 14, 15, 7, 8, 9, 19, 20, 21, 22, 23, 24, 25, 26] rfl (by unfold lw_W; simp only [qxa2, qxa5, qxa6, qxa8, qxa9, qxa11, qxa12, qxa13, qxa15, qxa17, qxa20, qxa22, qxa24, qxa26, qxa28, qxi0, qxi1, qxi2, qxi3, qxi4, qxi5, qxi6, qxi7, qxi8, qxi9, qxi10, qxi11, qxl]; rfl) rfl (by decide) (fun H locs hP hD hS => ?_)
  refine lv_pop hx hb dL_law_1310 rfl ?_
  refine lv_aload_n hx hb dL_law_1311 rfl (lv_at hl 2 rfl) ?_
  have qya1 : p2.2.1 1 = y.1 1 := by rw [← hp2]; try rfl
  have qya2 : p2.2.1 2 = y.1 2 := by rw [← hp2]; try rfl
  have qya3 : p2.2.1 3 = y.1 3 := by rw [← hp2]; try rfl
  have qya4 : p2.2.1 4 = y.1 4 := by rw [← hp2]; try rfl
  have qya5 : p2.2.1 5 = y.1 5 := by rw [← hp2]; try rfl
  have qya6 : p2.2.1 6 = y.1 6 := by rw [← hp2]; try rfl
  have qya7 : p2.2.1 7 = y.1 7 := by rw [← hp2]; try rfl
  have qya8 : p2.2.1 8 = o2.2.2 := by rw [← hp2]; try rfl
  have qya9 : p2.2.1 9 = y.1 9 := by rw [← hp2]; try rfl
  have qya10 : p2.2.1 10 = y.1 10 := by rw [← hp2]; try rfl
  have qya11 : p2.2.1 11 = y.1 11 := by rw [← hp2]; try rfl
  have qya12 : p2.2.1 12 = y.1 12 := by rw [← hp2]; try rfl
  have qya13 : p2.2.1 13 = y.1 13 := by rw [← hp2]; try rfl
  have qya14 : p2.2.1 14 = y.1 14 := by rw [← hp2]; try rfl
  have qyi0 : p2.2.2.1 0 = y.2.1 0 := by rw [← hp2]; try rfl
  have qyi1 : p2.2.2.1 1 = y.2.1 1 := by rw [← hp2]; try rfl
  have qyi2 : p2.2.2.1 2 = y.2.1 2 := by rw [← hp2]; try rfl
  have qyi3 : p2.2.2.1 3 = y.2.1 3 := by rw [← hp2]; try rfl
  have qyi4 : p2.2.2.1 4 = y.2.1 4 := by rw [← hp2]; try rfl
  have qyi5 : p2.2.2.1 5 = y.2.1 5 := by rw [← hp2]; try rfl
  have qyi6 : p2.2.2.1 6 = y.2.1 6 := by rw [← hp2]; try rfl
  have qyi7 : p2.2.2.1 7 = o2.2.1 := by rw [← hp2]; try rfl
  have qyi8 : p2.2.2.1 8 = y.2.1 8 := by rw [← hp2]; try rfl
  have qyl : p2.2.2.2 = y.2.2 := by rw [← hp2]; try rfl
  refine q_goi5 (v := o2.1) (lw_W a k bm km q3 k3 p1.2 p2.2 fo) [none, none, none, none, none, none, none, none, none, none, none, none, none, none, none, none, none, none, none, none, none, none, none, none, none, none, none, none, none, some 0, none, none, none, none, none, none, none, some 1, none, none, none, none, none, some 2, none] (va_runV (As := []) (rest := []) ⟨hx, hb, hml, hown, hts⟩ (c_X10_back l dC dI bm km (y.2.1 0) (y.2.1 1) (y.2.1 2) (y.2.1 3) (y.2.1 4) (y.2.1 5) (y.2.1 6) (y.2.1 7) (y.2.1 8) (y.2.2) (y.1 8) (y.1 14) (va_A [((bm 0), .inr (10, [.int (y.2.1 0), .ref (bm 1), .int (y.2.1 1), .int (y.2.1 2), .int (y.2.1 3), .ref (bm 2), .ref (bm 3), .int (y.2.1 4), .ref (bm 4), .ref (bm 5), .int (y.2.1 5), .ref (bm 6), .ref (bm 7), .int (y.2.1 6), .ref (bm 8), .ref (bm 9), .ref (bm 10), .int (y.2.1 7), .long (y.2.2), .ref (bm 11), .ref (bm 12), .ref (bm 13), .ref (bm 14), .int (y.2.1 8)])), ((bm 8), .inl ((km 8), 279, .inl (y.1 8))), ((bm 14), .inl ((km 14), 279, .inl (y.1 14)))] H.size) o2 hF2) (cwV 0 hts (q_lV m_1411 m_1412 m_1413 m_5 m_1414) rfl rfl rfl hdV_yX10_back_0 ⟨Nat.le_of_ble_eq_true rfl, Nat.le_of_ble_eq_true rfl⟩) (q_preWV hK hP hD (q := (RX10, TX10, 24)) (ci := 10) (q0 := 29) rfl rfl [29, 37, 43] (by decide) rfl rfl [22, 28] rfl) rfl rfl hl.1 rfl (lv_room (Nat.le_of_ble_eq_true rfl)) dL_law_1312 ⟨by show 45 + j + 0 ≤ 1070; omega, by show 18169 + 6 * j + 0 ≤ 26367; omega⟩) hP hD hS hA [29, 37, 43] rfl (by unfold lw_W; simp only [qya1, qya2, qya3, qya4, qya5, qya6, qya7, qya8, qya9, qya10, qya11, qya12, qya13, qya14, qyi0, qyi1, qyi2, qyi3, qyi4, qyi5, qyi6, qyi7, qyi8, qyl]; rfl) rfl (by decide) (fun H locs hP hD hS => ?_)
  refine lv_pop hx hb dL_law_1315 rfl ?_
  refine lv_goto (tgt := 1344) hx hb dL_law_1316 (by decide) ?_
  refine W.widen (k := 45 + j + 1) (n := 18169 + 6 * j + 6) (by omega) (by omega) ?_
  exact kont _ H locs ls hP hD hS (lv_sub hl [0, 1, 2, 3, 4] rfl)

set_option maxHeartbeats 4000000 in
set_option maxRecDepth 100000 in
theorem lw_case_36 {p : Program} {l : Launch} {e : Env} {s : State} {m : MethodId} {below : List Frame} {meth : Method} {c : Code} {dC : Nat → ClassId} {dI : Nat → Nat → Nat} {b L : Nat} {xs : Nat → Int32} (C0 : lw_At p s m meth c b L xs) (ts ks kv : Nat → Nat) (sa : Nat) (hE : q_S ts ks kv (fun q : Nat => s.heap.size ≤ q) s) (hEX : q_X sa s) (hlt : l.stackTraces = false) {a : Nat → Nat} {k : Nat → ClassId} {bm : Nat → Nat} {km : Nat → ClassId} {q3 : Nat} {k3 : ClassId} {j : Nat} (hj : 6 * j + 6 ≤ L) (hL : L ≤ 3072) {z : Nat → Int32} (hz : ∀ q, z q = xs (6 * j + q)) {x y : XS} {p1 p2 : Int32 × XS} (h1 : SX_36 x z = some p1) (h2 : SY_36 y z = some p2) (hcmp : p1.1 = p2.1) {fo : Nat → Int64} {H : Heap} {locs : List Loc} {ls : Array Slot} (hK : va_K (dC, dI) vwCl (lw_T k km k3) s) (hP : va_P (dC, dI) vwCl (lw_W a k bm km q3 k3 x y fo) H) (hD : va_D (fun q : Nat => s.heap.size ≤ q) (lw_W a k bm km q3 k3 x y fo)) (hS : va_S (fun q : Nat => s.heap.size ≤ q) s.heap H locs) (hl : lv_has ls 7 [(4, .int (nI (6 * j))), (3, .ref q3), (2, .ref (bm 0)), (1, .ref (a 0)), (0, .ref b)]) (kont : ∀ (fo : Nat → Int64) (H : Heap) (locs : List Loc) (ls : Array Slot), va_P (dC, dI) vwCl (lw_W a k bm km q3 k3 p1.2 p2.2 fo) H → va_D (fun q : Nat => s.heap.size ≤ q) (lw_W a k bm km q3 k3 p1.2 p2.2 fo) → va_S (fun q : Nat => s.heap.size ≤ q) s.heap H locs → lv_has ls 7 [(4, .int (nI (6 * j))), (3, .ref q3), (2, .ref (bm 0)), (1, .ref (a 0)), (0, .ref b)] → W p l e room_1 s m #[Value.ref b] below meth c H locs (45 + j + 1) (18169 + 6 * j + 6) (lw_Z below #[Value.ref b] s) (F0 m 1344 ls [])) : W p l e room_1 s m #[Value.ref b] below meth c H locs (45 + j) (18169 + 6 * j) (lw_Z below #[Value.ref b] s) (F0 m 1319 ls []) := by
  obtain ⟨hx, hb, hr, hml, hown, hts, hX, hbl, hlocks, hgv⟩ := C0
  have hown : s.vm.findClass RL = some m.cls := hown
  have hA : ∀ q : Nat, s.heap.size ≤ q → (fun q : Nat => s.heap.size ≤ q) q := fun _ h => h
  have hbA : ¬ (fun q : Nat => s.heap.size ≤ q) b := Nat.not_le.mpr hbl
  unfold SX_36 at h1
  unfold SY_36 at h2
  obtain ⟨o1, hF1, h1⟩ := q_bi h1
  have hp1 := Option.some.inj h1
  obtain ⟨o2, hF2, h2⟩ := q_bi h2
  have hp2 := Option.some.inj h2
  have hcmp : o1 = o2 := by rw [← hp1, ← hp2] at hcmp; exact hcmp
  refine lv_aload_n hx hb dL_law_1319 rfl (lv_at hl 3 rfl) ?_
  refine lv_aload_n hx hb dL_law_1320 rfl (lv_at hl 4 rfl) ?_
  refine lv_iload hx hb dL_law_1321 (lv_at hl 0 rfl) ?_
  refine lv_iconst (v := 1) hx hb dL_law_1323 (by decide) ?_
  refine lv_iadd hx hb dL_law_1324 ?_
  refine q_top (y := nI (6 * j + 1)) (nI_add (6 * j) 1) ?_
  refine va_sld hx hb hX hbl hbA hS (i := (nI (6 * j + 1))) (vp_in_nI (by omega) (by omega)) dL_law_1325 ?_
  refine q_top (y := z 1) (by rw [nI_clamp (by omega), hz]) ?_
  refine q_goi (v := o1) (va_runV (As := [.int (z 1)]) (rest := []) ⟨hx, hb, hml, hown, hts⟩ (c_X9_count l dC dI a k (x.2.1 0) (x.2.1 4) (x.2.1 5) (x.2.1 6) (x.2.1 7) (x.2.1 8) (x.2.1 9) (x.2.1 11) (z 1) o1 hF1) (cwV 1 hts (q_lV m_1415 m_1416 m_1417 m_2 m_1418) rfl rfl rfl hdV_yX9_count_1 ⟨Nat.le_of_ble_eq_true rfl, Nat.le_of_ble_eq_true rfl⟩) (q_preV hK hP (q := (RX9, TX9, 15)) (ci := 9) (q0 := 0) rfl rfl [0, 1, 7, 10, 19, 21] rfl [] rfl) rfl rfl hl.1 rfl (lv_room (Nat.le_of_ble_eq_true rfl)) dL_law_1326 ⟨by show 45 + j + 0 ≤ 1070; omega, by show 18169 + 6 * j + 0 ≤ 26367; omega⟩) hP hS (fun H locs hP hS => ?_)
  have hP : va_P (dC, dI) vwCl (lw_W a k bm km q3 k3 p1.2 y fo) H := by rw [← hp1]; exact hP
  have hD : va_D (fun q : Nat => s.heap.size ≤ q) (lw_W a k bm km q3 k3 p1.2 y fo) := by rw [← hp1]; exact hD
  refine lv_aload_n hx hb dL_law_1329 rfl (lv_at hl 2 rfl) ?_
  refine lv_aload_n hx hb dL_law_1330 rfl (lv_at hl 4 rfl) ?_
  refine lv_iload hx hb dL_law_1331 (lv_at hl 0 rfl) ?_
  refine lv_iconst (v := 1) hx hb dL_law_1333 (by decide) ?_
  refine lv_iadd hx hb dL_law_1334 ?_
  refine q_top (y := nI (6 * j + 1)) (nI_add (6 * j) 1) ?_
  refine va_sld hx hb hX hbl hbA hS (i := (nI (6 * j + 1))) (vp_in_nI (by omega) (by omega)) dL_law_1335 ?_
  refine q_top (y := z 1) (by rw [nI_clamp (by omega), hz]) ?_
  refine q_goi (v := o2) (va_runV (As := [.int (z 1)]) (rest := [.int o1]) ⟨hx, hb, hml, hown, hts⟩ (c_X10_count l dC dI bm km (y.2.1 0) (y.2.1 1) (y.2.1 2) (y.2.1 3) (y.2.1 4) (y.2.1 5) (y.2.1 6) (y.2.1 7) (y.2.1 8) (y.2.2) (y.1 8) (z 1) o2 hF2) (cwV 1 hts (q_lV m_1419 m_1420 m_1421 m_5 m_1422) rfl rfl rfl hdV_yX10_count_1 ⟨Nat.le_of_ble_eq_true rfl, Nat.le_of_ble_eq_true rfl⟩) (q_preV hK hP (q := (RX10, TX10, 24)) (ci := 10) (q0 := 29) rfl rfl [29, 37] rfl [22] rfl) rfl rfl hl.1 rfl (lv_room (Nat.le_of_ble_eq_true rfl)) dL_law_1336 ⟨by show 45 + j + 0 ≤ 1070; omega, by show 18169 + 6 * j + 0 ≤ 26367; omega⟩) hP hS (fun H locs hP hS => ?_)
  have hP : va_P (dC, dI) vwCl (lw_W a k bm km q3 k3 p1.2 p2.2 fo) H := by rw [← hp2]; exact hP
  have hD : va_D (fun q : Nat => s.heap.size ≤ q) (lw_W a k bm km q3 k3 p1.2 p2.2 fo) := by rw [← hp2]; exact hD
  refine lv_icmp_eq (tgt := 1344) hx hb dL_law_1339 (by decide) (fun c_1 => ?_) (fun c_1 => ?_)
  rotate_left
  · exact absurd hcmp c_1
  refine W.widen (k := 45 + j + 1) (n := 18169 + 6 * j + 6) (by omega) (by omega) ?_
  exact kont _ H locs ls hP hD hS (lv_sub hl [0, 1, 2, 3, 4] rfl)
