theorem k_705 : Cond.methodLink RL 21 yX13_feed ∈ mtb := mk_s3 92 rfl rfl
theorem k_706 : Cond.instanceMethod yX13_feed ∈ mtb := mk_s3 93 rfl rfl
theorem k_707 : Cond.selects RX13 yX13_feed yX13_feed ∈ mtb := mk_s3 94 rfl rfl
theorem k_708 : Cond.code yX13_feed cX13_feed 6 (some Jvm.ClassFile.FieldType.int) ∈ mtb := mk_s3 95 rfl rfl
theorem k_713 : Cond.methodLink RL 26 yX13_text ∈ mtb := mk_s3 100 rfl rfl
theorem k_714 : Cond.instanceMethod yX13_text ∈ mtb := mk_s3 101 rfl rfl
theorem k_715 : Cond.selects RX13 yX13_text yX13_text ∈ mtb := mk_s3 102 rfl rfl
theorem k_716 : Cond.code yX13_text cX13_text 3 (some Jvm.ClassFile.FieldType.int) ∈ mtb := mk_s3 103 rfl rfl
theorem k_976 : Cond.methodLink RL 31 yX13_fault ∈ mtb := mk_s4 123 rfl rfl
theorem k_977 : Cond.instanceMethod yX13_fault ∈ mtb := mk_s4 124 rfl rfl
theorem k_978 : Cond.selects RX13 yX13_fault yX13_fault ∈ mtb := mk_s4 125 rfl rfl
theorem k_979 : Cond.code yX13_fault cX13_fault 2 (some Jvm.ClassFile.FieldType.int) ∈ mtb := mk_s4 126 rfl rfl
theorem k_980 : Cond.methodLink RL 35 yX13_named ∈ mtb := mk_s4 127 rfl rfl
theorem k_981 : Cond.instanceMethod yX13_named ∈ mtb := mk_s4 128 rfl rfl
theorem k_982 : Cond.selects RX13 yX13_named yX13_named ∈ mtb := mk_s4 129 rfl rfl
theorem k_983 : Cond.code yX13_named cX13_named 4 (some Jvm.ClassFile.FieldType.int) ∈ mtb := mk_s4 130 rfl rfl
theorem k_985 : Cond.methodLink RL 49 yX13_cell ∈ mtb := mk_s4 132 rfl rfl
theorem k_986 : Cond.instanceMethod yX13_cell ∈ mtb := mk_s4 133 rfl rfl
theorem k_987 : Cond.selects RX13 yX13_cell yX13_cell ∈ mtb := mk_s4 134 rfl rfl
theorem k_988 : Cond.code yX13_cell cX13_cell 3 (some Jvm.ClassFile.FieldType.int) ∈ mtb := mk_s4 135 rfl rfl
theorem k_1005 : Cond.methodLink RL 53 yX13_drop ∈ mtb := mk_s4 152 rfl rfl
theorem k_1006 : Cond.instanceMethod yX13_drop ∈ mtb := mk_s4 153 rfl rfl
theorem k_1007 : Cond.selects RX13 yX13_drop yX13_drop ∈ mtb := mk_s4 154 rfl rfl
theorem k_1008 : Cond.code yX13_drop cX13_drop 3 (some Jvm.ClassFile.FieldType.int) ∈ mtb := mk_s4 155 rfl rfl
theorem k_1013 : Cond.methodLink RL 57 yX13_far ∈ mtb := mk_s4 160 rfl rfl
theorem k_1014 : Cond.instanceMethod yX13_far ∈ mtb := mk_s4 161 rfl rfl
theorem k_1015 : Cond.selects RX13 yX13_far yX13_far ∈ mtb := mk_s4 162 rfl rfl
theorem k_1016 : Cond.code yX13_far cX13_far 3 (some Jvm.ClassFile.FieldType.int) ∈ mtb := mk_s4 163 rfl rfl
theorem k_1052 : Cond.methodLink RL 61 yX13_weak ∈ mtb := mk_s4 199 rfl rfl
theorem k_1053 : Cond.instanceMethod yX13_weak ∈ mtb := mk_s4 200 rfl rfl
theorem k_1054 : Cond.selects RX13 yX13_weak yX13_weak ∈ mtb := mk_s4 201 rfl rfl
theorem k_1055 : Cond.code yX13_weak cX13_weak 3 (some Jvm.ClassFile.FieldType.int) ∈ mtb := mk_s4 202 rfl rfl
theorem k_1060 : Cond.methodLink RL 65 yX13_rise ∈ mtb := mk_s4 207 rfl rfl
theorem k_1109 : Cond.methodLink RL 69 yX13_shows ∈ mtb := mk_s5 16 rfl rfl
theorem k_1110 : Cond.instanceMethod yX13_shows ∈ mtb := mk_s5 17 rfl rfl
theorem k_1111 : Cond.selects RX13 yX13_shows yX13_shows ∈ mtb := mk_s5 18 rfl rfl
theorem k_1112 : Cond.code yX13_shows cX13_shows 3 (some Jvm.ClassFile.FieldType.int) ∈ mtb := mk_s5 19 rfl rfl
theorem k_1119 : Cond.methodLink RL 73 yX13_most ∈ mtb := mk_s5 26 rfl rfl
theorem k_1120 : Cond.instanceMethod yX13_most ∈ mtb := mk_s5 27 rfl rfl
theorem k_1121 : Cond.selects RX13 yX13_most yX13_most ∈ mtb := mk_s5 28 rfl rfl
theorem k_1122 : Cond.code yX13_most cX13_most 5 (some Jvm.ClassFile.FieldType.int) ∈ mtb := mk_s5 29 rfl rfl
theorem k_1128 : Cond.methodLink RL 77 yX13_law ∈ mtb := mk_s5 35 rfl rfl
theorem k_1129 : Cond.instanceMethod yX13_law ∈ mtb := mk_s5 36 rfl rfl
theorem k_1130 : Cond.selects RX13 yX13_law yX13_law ∈ mtb := mk_s5 37 rfl rfl
theorem k_1131 : Cond.code yX13_law cX13_law 3 (some Jvm.ClassFile.FieldType.long) ∈ mtb := mk_s5 38 rfl rfl
theorem k_1156 : Cond.methodLink RL 82 yX13_where ∈ mtb := mk_s5 63 rfl rfl
theorem k_1157 : Cond.instanceMethod yX13_where ∈ mtb := mk_s5 64 rfl rfl
theorem k_1158 : Cond.selects RX13 yX13_where yX13_where ∈ mtb := mk_s5 65 rfl rfl
theorem k_1159 : Cond.code yX13_where cX13_where 3 (some Jvm.ClassFile.FieldType.int) ∈ mtb := mk_s5 66 rfl rfl
theorem k_1174 : Cond.methodLink RL 86 yX13_reaches ∈ mtb := mk_s5 81 rfl rfl
theorem k_1175 : Cond.instanceMethod yX13_reaches ∈ mtb := mk_s5 82 rfl rfl
theorem k_1176 : Cond.selects RX13 yX13_reaches yX13_reaches ∈ mtb := mk_s5 83 rfl rfl
theorem k_1177 : Cond.code yX13_reaches cX13_reaches 3 (some Jvm.ClassFile.FieldType.int) ∈ mtb := mk_s5 84 rfl rfl
theorem k_1186 : Cond.methodLink RL 90 yX13_first ∈ mtb := mk_s5 93 rfl rfl
theorem k_1187 : Cond.instanceMethod yX13_first ∈ mtb := mk_s5 94 rfl rfl
theorem k_1188 : Cond.selects RX13 yX13_first yX13_first ∈ mtb := mk_s5 95 rfl rfl
theorem k_1189 : Cond.code yX13_first cX13_first 2 (some Jvm.ClassFile.FieldType.int) ∈ mtb := mk_s5 96 rfl rfl
theorem k_1194 : Cond.methodLink RL 94 yX13_lie ∈ mtb := mk_s5 101 rfl rfl
theorem k_1195 : Cond.instanceMethod yX13_lie ∈ mtb := mk_s5 102 rfl rfl
theorem k_1196 : Cond.selects RX13 yX13_lie yX13_lie ∈ mtb := mk_s5 103 rfl rfl
theorem k_1197 : Cond.code yX13_lie cX13_lie 9 (some Jvm.ClassFile.FieldType.int) ∈ mtb := mk_s5 104 rfl rfl
theorem k_1213 : Cond.methodLink RL 98 yX13_fall ∈ mtb := mk_s5 120 rfl rfl
theorem k_1214 : Cond.instanceMethod yX13_fall ∈ mtb := mk_s5 121 rfl rfl
theorem k_1215 : Cond.selects RX13 yX13_fall yX13_fall ∈ mtb := mk_s5 122 rfl rfl
theorem k_1216 : Cond.code yX13_fall cX13_fall 5 (some Jvm.ClassFile.FieldType.int) ∈ mtb := mk_s5 123 rfl rfl
theorem k_1227 : Cond.methodLink RL 103 yX13_cut ∈ mtb := mk_s5 134 rfl rfl
theorem k_1228 : Cond.instanceMethod yX13_cut ∈ mtb := mk_s5 135 rfl rfl
theorem k_1229 : Cond.selects RX13 yX13_cut yX13_cut ∈ mtb := mk_s5 136 rfl rfl
theorem k_1230 : Cond.code yX13_cut cX13_cut 2 (some Jvm.ClassFile.FieldType.boolean) ∈ mtb := mk_s5 137 rfl rfl
theorem k_1240 : Cond.methodLink RL 108 yX13_undo ∈ mtb := mk_s5 147 rfl rfl
theorem k_1241 : Cond.instanceMethod yX13_undo ∈ mtb := mk_s5 148 rfl rfl
theorem k_1242 : Cond.selects RX13 yX13_undo yX13_undo ∈ mtb := mk_s5 149 rfl rfl
theorem k_1243 : Cond.code yX13_undo cX13_undo 1 (some Jvm.ClassFile.FieldType.int) ∈ mtb := mk_s5 150 rfl rfl
theorem k_1252 : Cond.methodLink RL 112 yX13_note ∈ mtb := mk_s5 159 rfl rfl
theorem k_1253 : Cond.instanceMethod yX13_note ∈ mtb := mk_s5 160 rfl rfl
theorem k_1254 : Cond.selects RX13 yX13_note yX13_note ∈ mtb := mk_s5 161 rfl rfl
theorem k_1255 : Cond.code yX13_note cX13_note 5 (some Jvm.ClassFile.FieldType.int) ∈ mtb := mk_s5 162 rfl rfl
theorem k_1260 : Cond.methodLink RL 116 yX13_strike ∈ mtb := mk_s5 167 rfl rfl
theorem k_1261 : Cond.instanceMethod yX13_strike ∈ mtb := mk_s5 168 rfl rfl
theorem k_1262 : Cond.selects RX13 yX13_strike yX13_strike ∈ mtb := mk_s5 169 rfl rfl
theorem k_1263 : Cond.code yX13_strike cX13_strike 2 (some Jvm.ClassFile.FieldType.int) ∈ mtb := mk_s5 170 rfl rfl
theorem k_1268 : Cond.methodLink RL 120 yX13_known ∈ mtb := mk_s5 175 rfl rfl
theorem k_1269 : Cond.instanceMethod yX13_known ∈ mtb := mk_s5 176 rfl rfl
theorem k_1270 : Cond.selects RX13 yX13_known yX13_known ∈ mtb := mk_s5 177 rfl rfl
theorem k_1271 : Cond.code yX13_known cX13_known 2 (some Jvm.ClassFile.FieldType.boolean) ∈ mtb := mk_s5 178 rfl rfl
theorem k_1276 : Cond.methodLink RL 124 yX13_tales ∈ mtb := mk_s5 183 rfl rfl
theorem k_1277 : Cond.instanceMethod yX13_tales ∈ mtb := mk_s5 184 rfl rfl
theorem k_1278 : Cond.selects RX13 yX13_tales yX13_tales ∈ mtb := mk_s5 185 rfl rfl
theorem k_1279 : Cond.code yX13_tales cX13_tales 1 (some Jvm.ClassFile.FieldType.int) ∈ mtb := mk_s5 186 rfl rfl
theorem k_1318 : Cond.methodLink RL 128 yX13_tale ∈ mtb := mk_s5 225 rfl rfl
theorem k_1319 : Cond.instanceMethod yX13_tale ∈ mtb := mk_s5 226 rfl rfl
theorem k_1320 : Cond.selects RX13 yX13_tale yX13_tale ∈ mtb := mk_s5 227 rfl rfl
theorem k_1321 : Cond.code yX13_tale cX13_tale 3 (some Jvm.ClassFile.FieldType.int) ∈ mtb := mk_s5 228 rfl rfl
theorem k_1322 : Cond.methodLink RL 132 yX13_likeliest ∈ mtb := mk_s5 229 rfl rfl
theorem k_1323 : Cond.instanceMethod yX13_likeliest ∈ mtb := mk_s5 230 rfl rfl
theorem k_1324 : Cond.selects RX13 yX13_likeliest yX13_likeliest ∈ mtb := mk_s5 231 rfl rfl
theorem k_1325 : Cond.code yX13_likeliest cX13_likeliest 2 (some Jvm.ClassFile.FieldType.int) ∈ mtb := mk_s5 232 rfl rfl
theorem k_1326 : Cond.methodLink RL 136 yX13_fits ∈ mtb := mk_s5 233 rfl rfl
theorem k_1327 : Cond.instanceMethod yX13_fits ∈ mtb := mk_s5 234 rfl rfl
theorem k_1328 : Cond.selects RX13 yX13_fits yX13_fits ∈ mtb := mk_s5 235 rfl rfl
theorem k_1329 : Cond.code yX13_fits cX13_fits 1 (some Jvm.ClassFile.FieldType.int) ∈ mtb := mk_s5 236 rfl rfl
theorem k_1382 : Cond.methodLink RL 147 yX13_looks ∈ mtb := mk_s6 49 rfl rfl
theorem k_1383 : Cond.instanceMethod yX13_looks ∈ mtb := mk_s6 50 rfl rfl
theorem k_1384 : Cond.selects RX13 yX13_looks yX13_looks ∈ mtb := mk_s6 51 rfl rfl
theorem k_1385 : Cond.code yX13_looks cX13_looks 7 (some Jvm.ClassFile.FieldType.int) ∈ mtb := mk_s6 52 rfl rfl
theorem k_1397 : Cond.methodLink RL 152 yX13_still ∈ mtb := mk_s6 64 rfl rfl
theorem k_1398 : Cond.instanceMethod yX13_still ∈ mtb := mk_s6 65 rfl rfl
theorem k_1399 : Cond.selects RX13 yX13_still yX13_still ∈ mtb := mk_s6 66 rfl rfl
theorem k_1400 : Cond.code yX13_still cX13_still 8 (some Jvm.ClassFile.FieldType.long) ∈ mtb := mk_s6 67 rfl rfl
theorem k_1406 : Cond.methodLink RL 157 yX13_chance ∈ mtb := mk_s6 73 rfl rfl
theorem k_1407 : Cond.instanceMethod yX13_chance ∈ mtb := mk_s6 74 rfl rfl
theorem k_1408 : Cond.selects RX13 yX13_chance yX13_chance ∈ mtb := mk_s6 75 rfl rfl
theorem k_1409 : Cond.code yX13_chance cX13_chance 7 (some Jvm.ClassFile.FieldType.int) ∈ mtb := mk_s6 76 rfl rfl
theorem k_1426 : Cond.methodLink RL 161 yX13_keep ∈ mtb := mk_s6 93 rfl rfl
theorem k_1427 : Cond.instanceMethod yX13_keep ∈ mtb := mk_s6 94 rfl rfl
theorem k_1428 : Cond.selects RX13 yX13_keep yX13_keep ∈ mtb := mk_s6 95 rfl rfl
theorem k_1429 : Cond.code yX13_keep cX13_keep 1 (some Jvm.ClassFile.FieldType.int) ∈ mtb := mk_s6 96 rfl rfl
theorem k_1434 : Cond.methodLink RL 165 yX13_back ∈ mtb := mk_s6 101 rfl rfl
theorem k_1435 : Cond.instanceMethod yX13_back ∈ mtb := mk_s6 102 rfl rfl
theorem k_1436 : Cond.selects RX13 yX13_back yX13_back ∈ mtb := mk_s6 103 rfl rfl
theorem k_1437 : Cond.code yX13_back cX13_back 1 (some Jvm.ClassFile.FieldType.int) ∈ mtb := mk_s6 104 rfl rfl
theorem k_1442 : Cond.methodLink RL 169 yX13_count ∈ mtb := mk_s6 109 rfl rfl
theorem k_1443 : Cond.instanceMethod yX13_count ∈ mtb := mk_s6 110 rfl rfl
theorem k_1444 : Cond.selects RX13 yX13_count yX13_count ∈ mtb := mk_s6 111 rfl rfl
theorem k_1445 : Cond.code yX13_count cX13_count 3 (some Jvm.ClassFile.FieldType.int) ∈ mtb := mk_s6 112 rfl rfl
theorem k_1890 : Cond.methodLink RL 25 yX14_feed ∈ mtb := mk_s8 77 rfl rfl
theorem k_1891 : Cond.instanceMethod yX14_feed ∈ mtb := mk_s8 78 rfl rfl
theorem k_1892 : Cond.selects RX14 yX14_feed yX14_feed ∈ mtb := mk_s8 79 rfl rfl
theorem k_1893 : Cond.code yX14_feed cX14_feed 8 (some Jvm.ClassFile.FieldType.int) ∈ mtb := mk_s8 80 rfl rfl
theorem k_1894 : Cond.methodLink RL 30 yX14_text ∈ mtb := mk_s8 81 rfl rfl
theorem k_1895 : Cond.instanceMethod yX14_text ∈ mtb := mk_s8 82 rfl rfl
theorem k_1896 : Cond.selects RX14 yX14_text yX14_text ∈ mtb := mk_s8 83 rfl rfl
theorem k_1897 : Cond.code yX14_text cX14_text 3 (some Jvm.ClassFile.FieldType.int) ∈ mtb := mk_s8 84 rfl rfl
theorem k_2023 : Cond.methodLink RL 34 yX14_fault ∈ mtb := mk_s8 210 rfl rfl
theorem k_2024 : Cond.instanceMethod yX14_fault ∈ mtb := mk_s8 211 rfl rfl
theorem k_2025 : Cond.selects RX14 yX14_fault yX14_fault ∈ mtb := mk_s8 212 rfl rfl
theorem k_2026 : Cond.code yX14_fault cX14_fault 2 (some Jvm.ClassFile.FieldType.int) ∈ mtb := mk_s8 213 rfl rfl
theorem k_2027 : Cond.methodLink RL 38 yX14_named ∈ mtb := mk_s8 214 rfl rfl
theorem k_2028 : Cond.instanceMethod yX14_named ∈ mtb := mk_s8 215 rfl rfl
theorem k_2029 : Cond.selects RX14 yX14_named yX14_named ∈ mtb := mk_s8 216 rfl rfl
theorem k_2030 : Cond.code yX14_named cX14_named 3 (some Jvm.ClassFile.FieldType.int) ∈ mtb := mk_s8 217 rfl rfl
theorem k_2031 : Cond.methodLink RL 60 yX14_far ∈ mtb := mk_s8 218 rfl rfl
theorem k_2032 : Cond.instanceMethod yX14_far ∈ mtb := mk_s8 219 rfl rfl
theorem k_2033 : Cond.selects RX14 yX14_far yX14_far ∈ mtb := mk_s8 220 rfl rfl
theorem k_2034 : Cond.code yX14_far cX14_far 3 (some Jvm.ClassFile.FieldType.int) ∈ mtb := mk_s8 221 rfl rfl
theorem k_2035 : Cond.methodLink RL 64 yX14_weak ∈ mtb := mk_s8 222 rfl rfl
theorem k_2036 : Cond.instanceMethod yX14_weak ∈ mtb := mk_s8 223 rfl rfl
theorem k_2037 : Cond.selects RX14 yX14_weak yX14_weak ∈ mtb := mk_s8 224 rfl rfl
theorem k_2038 : Cond.code yX14_weak cX14_weak 3 (some Jvm.ClassFile.FieldType.int) ∈ mtb := mk_s8 225 rfl rfl
theorem k_2051 : Cond.methodLink RL 52 yX14_cell ∈ mtb := mk_s8 238 rfl rfl
theorem k_2052 : Cond.instanceMethod yX14_cell ∈ mtb := mk_s8 239 rfl rfl
theorem k_2053 : Cond.selects RX14 yX14_cell yX14_cell ∈ mtb := mk_s9 0 rfl rfl
theorem k_2054 : Cond.code yX14_cell cX14_cell 5 (some Jvm.ClassFile.FieldType.int) ∈ mtb := mk_s9 1 rfl rfl
theorem k_2055 : Cond.methodLink RL 56 yX14_drop ∈ mtb := mk_s9 2 rfl rfl
theorem k_2056 : Cond.instanceMethod yX14_drop ∈ mtb := mk_s9 3 rfl rfl
theorem k_2057 : Cond.selects RX14 yX14_drop yX14_drop ∈ mtb := mk_s9 4 rfl rfl
theorem k_2058 : Cond.code yX14_drop cX14_drop 3 (some Jvm.ClassFile.FieldType.int) ∈ mtb := mk_s9 5 rfl rfl
theorem k_2059 : Cond.methodLink RL 68 yX14_rise ∈ mtb := mk_s9 6 rfl rfl
theorem k_2060 : Cond.instanceMethod yX14_rise ∈ mtb := mk_s9 7 rfl rfl
theorem k_2061 : Cond.selects RX14 yX14_rise yX14_rise ∈ mtb := mk_s9 8 rfl rfl
theorem k_2062 : Cond.code yX14_rise cX14_rise 3 (some Jvm.ClassFile.FieldType.int) ∈ mtb := mk_s9 9 rfl rfl
theorem k_2083 : Cond.methodLink RL 72 yX14_shows ∈ mtb := mk_s9 30 rfl rfl
theorem k_2084 : Cond.instanceMethod yX14_shows ∈ mtb := mk_s9 31 rfl rfl
theorem k_2085 : Cond.selects RX14 yX14_shows yX14_shows ∈ mtb := mk_s9 32 rfl rfl
theorem k_2086 : Cond.code yX14_shows cX14_shows 3 (some Jvm.ClassFile.FieldType.int) ∈ mtb := mk_s9 33 rfl rfl
theorem k_2091 : Cond.methodLink RL 76 yX14_most ∈ mtb := mk_s9 38 rfl rfl
theorem k_2092 : Cond.instanceMethod yX14_most ∈ mtb := mk_s9 39 rfl rfl
theorem k_2093 : Cond.selects RX14 yX14_most yX14_most ∈ mtb := mk_s9 40 rfl rfl
theorem k_2094 : Cond.code yX14_most cX14_most 8 (some Jvm.ClassFile.FieldType.int) ∈ mtb := mk_s9 41 rfl rfl
theorem k_2095 : Cond.methodLink RL 81 yX14_law ∈ mtb := mk_s9 42 rfl rfl
theorem k_2096 : Cond.instanceMethod yX14_law ∈ mtb := mk_s9 43 rfl rfl
theorem k_2097 : Cond.selects RX14 yX14_law yX14_law ∈ mtb := mk_s9 44 rfl rfl
theorem k_2098 : Cond.code yX14_law cX14_law 5 (some Jvm.ClassFile.FieldType.long) ∈ mtb := mk_s9 45 rfl rfl
theorem k_2125 : Cond.methodLink RL 85 yX14_where ∈ mtb := mk_s9 72 rfl rfl
theorem k_2126 : Cond.instanceMethod yX14_where ∈ mtb := mk_s9 73 rfl rfl
theorem k_2127 : Cond.selects RX14 yX14_where yX14_where ∈ mtb := mk_s9 74 rfl rfl
theorem k_2128 : Cond.code yX14_where cX14_where 5 (some Jvm.ClassFile.FieldType.int) ∈ mtb := mk_s9 75 rfl rfl
theorem k_2133 : Cond.methodLink RL 89 yX14_reaches ∈ mtb := mk_s9 80 rfl rfl
theorem k_2134 : Cond.instanceMethod yX14_reaches ∈ mtb := mk_s9 81 rfl rfl
theorem k_2135 : Cond.selects RX14 yX14_reaches yX14_reaches ∈ mtb := mk_s9 82 rfl rfl
theorem k_2136 : Cond.code yX14_reaches cX14_reaches 4 (some Jvm.ClassFile.FieldType.int) ∈ mtb := mk_s9 83 rfl rfl
theorem k_2141 : Cond.methodLink RL 93 yX14_first ∈ mtb := mk_s9 88 rfl rfl
theorem k_2142 : Cond.instanceMethod yX14_first ∈ mtb := mk_s9 89 rfl rfl
theorem k_2143 : Cond.selects RX14 yX14_first yX14_first ∈ mtb := mk_s9 90 rfl rfl
theorem k_2144 : Cond.code yX14_first cX14_first 6 (some Jvm.ClassFile.FieldType.int) ∈ mtb := mk_s9 91 rfl rfl
theorem k_2145 : Cond.methodLink RL 97 yX14_lie ∈ mtb := mk_s9 92 rfl rfl
theorem k_2146 : Cond.instanceMethod yX14_lie ∈ mtb := mk_s9 93 rfl rfl
theorem k_2147 : Cond.selects RX14 yX14_lie yX14_lie ∈ mtb := mk_s9 94 rfl rfl
theorem k_2148 : Cond.code yX14_lie cX14_lie 9 (some Jvm.ClassFile.FieldType.int) ∈ mtb := mk_s9 95 rfl rfl
theorem k_2149 : Cond.methodLink RL 102 yX14_fall ∈ mtb := mk_s9 96 rfl rfl
theorem k_2150 : Cond.instanceMethod yX14_fall ∈ mtb := mk_s9 97 rfl rfl
theorem k_2151 : Cond.selects RX14 yX14_fall yX14_fall ∈ mtb := mk_s9 98 rfl rfl
theorem k_2152 : Cond.code yX14_fall cX14_fall 4 (some Jvm.ClassFile.FieldType.int) ∈ mtb := mk_s9 99 rfl rfl
theorem k_2157 : Cond.methodLink RL 107 yX14_cut ∈ mtb := mk_s9 104 rfl rfl
theorem k_2158 : Cond.instanceMethod yX14_cut ∈ mtb := mk_s9 105 rfl rfl
theorem k_2159 : Cond.selects RX14 yX14_cut yX14_cut ∈ mtb := mk_s9 106 rfl rfl
theorem k_2160 : Cond.code yX14_cut cX14_cut 2 (some Jvm.ClassFile.FieldType.boolean) ∈ mtb := mk_s9 107 rfl rfl
theorem k_2161 : Cond.methodLink RL 111 yX14_undo ∈ mtb := mk_s9 108 rfl rfl
theorem k_2162 : Cond.instanceMethod yX14_undo ∈ mtb := mk_s9 109 rfl rfl
theorem k_2163 : Cond.selects RX14 yX14_undo yX14_undo ∈ mtb := mk_s9 110 rfl rfl
theorem k_2164 : Cond.code yX14_undo cX14_undo 1 (some Jvm.ClassFile.FieldType.int) ∈ mtb := mk_s9 111 rfl rfl
theorem k_2165 : Cond.methodLink RL 115 yX14_note ∈ mtb := mk_s9 112 rfl rfl
theorem k_2166 : Cond.instanceMethod yX14_note ∈ mtb := mk_s9 113 rfl rfl
theorem k_2167 : Cond.selects RX14 yX14_note yX14_note ∈ mtb := mk_s9 114 rfl rfl
theorem k_2168 : Cond.code yX14_note cX14_note 4 (some Jvm.ClassFile.FieldType.int) ∈ mtb := mk_s9 115 rfl rfl
theorem k_2173 : Cond.methodLink RL 119 yX14_strike ∈ mtb := mk_s9 120 rfl rfl
theorem k_2174 : Cond.instanceMethod yX14_strike ∈ mtb := mk_s9 121 rfl rfl
theorem k_2175 : Cond.selects RX14 yX14_strike yX14_strike ∈ mtb := mk_s9 122 rfl rfl
theorem k_2176 : Cond.code yX14_strike cX14_strike 2 (some Jvm.ClassFile.FieldType.int) ∈ mtb := mk_s9 123 rfl rfl
theorem k_2177 : Cond.methodLink RL 123 yX14_known ∈ mtb := mk_s9 124 rfl rfl
theorem k_2178 : Cond.instanceMethod yX14_known ∈ mtb := mk_s9 125 rfl rfl
theorem k_2179 : Cond.selects RX14 yX14_known yX14_known ∈ mtb := mk_s9 126 rfl rfl
theorem k_2180 : Cond.code yX14_known cX14_known 2 (some Jvm.ClassFile.FieldType.boolean) ∈ mtb := mk_s9 127 rfl rfl
theorem k_2181 : Cond.methodLink RL 127 yX14_tales ∈ mtb := mk_s9 128 rfl rfl
theorem k_2182 : Cond.instanceMethod yX14_tales ∈ mtb := mk_s9 129 rfl rfl
theorem k_2183 : Cond.selects RX14 yX14_tales yX14_tales ∈ mtb := mk_s9 130 rfl rfl
theorem k_2184 : Cond.code yX14_tales cX14_tales 1 (some Jvm.ClassFile.FieldType.int) ∈ mtb := mk_s9 131 rfl rfl
theorem k_2201 : Cond.methodLink RL 131 yX14_tale ∈ mtb := mk_s9 148 rfl rfl
theorem k_2202 : Cond.instanceMethod yX14_tale ∈ mtb := mk_s9 149 rfl rfl
theorem k_2203 : Cond.selects RX14 yX14_tale yX14_tale ∈ mtb := mk_s9 150 rfl rfl
theorem k_2204 : Cond.code yX14_tale cX14_tale 3 (some Jvm.ClassFile.FieldType.int) ∈ mtb := mk_s9 151 rfl rfl
theorem k_2208 : Cond.methodLink RL 135 yX14_likeliest ∈ mtb := mk_s9 155 rfl rfl
theorem k_2209 : Cond.instanceMethod yX14_likeliest ∈ mtb := mk_s9 156 rfl rfl
theorem k_2210 : Cond.selects RX14 yX14_likeliest yX14_likeliest ∈ mtb := mk_s9 157 rfl rfl
theorem k_2211 : Cond.code yX14_likeliest cX14_likeliest 2 (some Jvm.ClassFile.FieldType.int) ∈ mtb := mk_s9 158 rfl rfl
theorem k_2212 : Cond.methodLink RL 139 yX14_fits ∈ mtb := mk_s9 159 rfl rfl
theorem k_2213 : Cond.instanceMethod yX14_fits ∈ mtb := mk_s9 160 rfl rfl
theorem k_2214 : Cond.selects RX14 yX14_fits yX14_fits ∈ mtb := mk_s9 161 rfl rfl
theorem k_2215 : Cond.code yX14_fits cX14_fits 4 (some Jvm.ClassFile.FieldType.int) ∈ mtb := mk_s9 162 rfl rfl
theorem k_2247 : Cond.methodLink RL 151 yX14_looks ∈ mtb := mk_s9 194 rfl rfl
theorem k_2248 : Cond.instanceMethod yX14_looks ∈ mtb := mk_s9 195 rfl rfl
theorem k_2249 : Cond.selects RX14 yX14_looks yX14_looks ∈ mtb := mk_s9 196 rfl rfl
theorem k_2250 : Cond.code yX14_looks cX14_looks 11 (some Jvm.ClassFile.FieldType.int) ∈ mtb := mk_s9 197 rfl rfl
theorem k_2251 : Cond.methodLink RL 156 yX14_still ∈ mtb := mk_s9 198 rfl rfl
theorem k_2252 : Cond.instanceMethod yX14_still ∈ mtb := mk_s9 199 rfl rfl
theorem k_2253 : Cond.selects RX14 yX14_still yX14_still ∈ mtb := mk_s9 200 rfl rfl
theorem k_2254 : Cond.code yX14_still cX14_still 11 (some Jvm.ClassFile.FieldType.long) ∈ mtb := mk_s9 201 rfl rfl
theorem k_2256 : Cond.methodLink RL 160 yX14_chance ∈ mtb := mk_s9 203 rfl rfl
theorem k_2257 : Cond.instanceMethod yX14_chance ∈ mtb := mk_s9 204 rfl rfl
theorem k_2258 : Cond.selects RX14 yX14_chance yX14_chance ∈ mtb := mk_s9 205 rfl rfl
theorem k_2259 : Cond.code yX14_chance cX14_chance 11 (some Jvm.ClassFile.FieldType.int) ∈ mtb := mk_s9 206 rfl rfl
theorem k_2268 : Cond.methodLink RL 164 yX14_keep ∈ mtb := mk_s9 215 rfl rfl
theorem k_2269 : Cond.instanceMethod yX14_keep ∈ mtb := mk_s9 216 rfl rfl
theorem k_2270 : Cond.selects RX14 yX14_keep yX14_keep ∈ mtb := mk_s9 217 rfl rfl
theorem k_2271 : Cond.code yX14_keep cX14_keep 2 (some Jvm.ClassFile.FieldType.int) ∈ mtb := mk_s9 218 rfl rfl
theorem k_2272 : Cond.methodLink RL 168 yX14_back ∈ mtb := mk_s9 219 rfl rfl
theorem k_2273 : Cond.instanceMethod yX14_back ∈ mtb := mk_s9 220 rfl rfl
theorem k_2274 : Cond.selects RX14 yX14_back yX14_back ∈ mtb := mk_s9 221 rfl rfl
theorem k_2275 : Cond.code yX14_back cX14_back 2 (some Jvm.ClassFile.FieldType.int) ∈ mtb := mk_s9 222 rfl rfl
theorem k_2276 : Cond.methodLink RL 172 yX14_count ∈ mtb := mk_s9 223 rfl rfl
theorem k_2277 : Cond.instanceMethod yX14_count ∈ mtb := mk_s9 224 rfl rfl
theorem k_2278 : Cond.selects RX14 yX14_count yX14_count ∈ mtb := mk_s9 225 rfl rfl
theorem k_2279 : Cond.code yX14_count cX14_count 2 (some Jvm.ClassFile.FieldType.int) ∈ mtb := mk_s9 226 rfl rfl
theorem hdL_X13_feed : yX13_feed.cls = RX13 ∧ yX13_feed.cls ≠ "java/lang/invoke/MethodHandle" ∧ yX13_feed.cls ≠ "java/lang/invoke/VarHandle" ∧ (parseMethodDescriptor yX13_feed.desc).map (fun d => d.parameters.length) = some 5 := by decide +kernel
theorem hdL_X14_feed : yX14_feed.cls = RX14 ∧ yX14_feed.cls ≠ "java/lang/invoke/MethodHandle" ∧ yX14_feed.cls ≠ "java/lang/invoke/VarHandle" ∧ (parseMethodDescriptor yX14_feed.desc).map (fun d => d.parameters.length) = some 5 := by decide +kernel
theorem hdL_X13_text : yX13_text.cls = RX13 ∧ yX13_text.cls ≠ "java/lang/invoke/MethodHandle" ∧ yX13_text.cls ≠ "java/lang/invoke/VarHandle" ∧ (parseMethodDescriptor yX13_text.desc).map (fun d => d.parameters.length) = some 1 := by decide +kernel
theorem hdL_X14_text : yX14_text.cls = RX14 ∧ yX14_text.cls ≠ "java/lang/invoke/MethodHandle" ∧ yX14_text.cls ≠ "java/lang/invoke/VarHandle" ∧ (parseMethodDescriptor yX14_text.desc).map (fun d => d.parameters.length) = some 1 := by decide +kernel
theorem hdL_X13_fault : yX13_fault.cls = RX13 ∧ yX13_fault.cls ≠ "java/lang/invoke/MethodHandle" ∧ yX13_fault.cls ≠ "java/lang/invoke/VarHandle" ∧ (parseMethodDescriptor yX13_fault.desc).map (fun d => d.parameters.length) = some 1 := by decide +kernel
theorem hdL_X14_fault : yX14_fault.cls = RX14 ∧ yX14_fault.cls ≠ "java/lang/invoke/MethodHandle" ∧ yX14_fault.cls ≠ "java/lang/invoke/VarHandle" ∧ (parseMethodDescriptor yX14_fault.desc).map (fun d => d.parameters.length) = some 1 := by decide +kernel
theorem hdL_X13_named : yX13_named.cls = RX13 ∧ yX13_named.cls ≠ "java/lang/invoke/MethodHandle" ∧ yX13_named.cls ≠ "java/lang/invoke/VarHandle" ∧ (parseMethodDescriptor yX13_named.desc).map (fun d => d.parameters.length) = some 2 := by decide +kernel
theorem hdL_X14_named : yX14_named.cls = RX14 ∧ yX14_named.cls ≠ "java/lang/invoke/MethodHandle" ∧ yX14_named.cls ≠ "java/lang/invoke/VarHandle" ∧ (parseMethodDescriptor yX14_named.desc).map (fun d => d.parameters.length) = some 2 := by decide +kernel
theorem hdL_X13_cell : yX13_cell.cls = RX13 ∧ yX13_cell.cls ≠ "java/lang/invoke/MethodHandle" ∧ yX13_cell.cls ≠ "java/lang/invoke/VarHandle" ∧ (parseMethodDescriptor yX13_cell.desc).map (fun d => d.parameters.length) = some 2 := by decide +kernel
theorem hdL_X14_cell : yX14_cell.cls = RX14 ∧ yX14_cell.cls ≠ "java/lang/invoke/MethodHandle" ∧ yX14_cell.cls ≠ "java/lang/invoke/VarHandle" ∧ (parseMethodDescriptor yX14_cell.desc).map (fun d => d.parameters.length) = some 2 := by decide +kernel
theorem hdL_X13_drop : yX13_drop.cls = RX13 ∧ yX13_drop.cls ≠ "java/lang/invoke/MethodHandle" ∧ yX13_drop.cls ≠ "java/lang/invoke/VarHandle" ∧ (parseMethodDescriptor yX13_drop.desc).map (fun d => d.parameters.length) = some 2 := by decide +kernel
theorem hdL_X14_drop : yX14_drop.cls = RX14 ∧ yX14_drop.cls ≠ "java/lang/invoke/MethodHandle" ∧ yX14_drop.cls ≠ "java/lang/invoke/VarHandle" ∧ (parseMethodDescriptor yX14_drop.desc).map (fun d => d.parameters.length) = some 2 := by decide +kernel
theorem hdL_X13_far : yX13_far.cls = RX13 ∧ yX13_far.cls ≠ "java/lang/invoke/MethodHandle" ∧ yX13_far.cls ≠ "java/lang/invoke/VarHandle" ∧ (parseMethodDescriptor yX13_far.desc).map (fun d => d.parameters.length) = some 2 := by decide +kernel
theorem hdL_X14_far : yX14_far.cls = RX14 ∧ yX14_far.cls ≠ "java/lang/invoke/MethodHandle" ∧ yX14_far.cls ≠ "java/lang/invoke/VarHandle" ∧ (parseMethodDescriptor yX14_far.desc).map (fun d => d.parameters.length) = some 2 := by decide +kernel
theorem hdL_X13_weak : yX13_weak.cls = RX13 ∧ yX13_weak.cls ≠ "java/lang/invoke/MethodHandle" ∧ yX13_weak.cls ≠ "java/lang/invoke/VarHandle" ∧ (parseMethodDescriptor yX13_weak.desc).map (fun d => d.parameters.length) = some 2 := by decide +kernel
theorem hdL_X14_weak : yX14_weak.cls = RX14 ∧ yX14_weak.cls ≠ "java/lang/invoke/MethodHandle" ∧ yX14_weak.cls ≠ "java/lang/invoke/VarHandle" ∧ (parseMethodDescriptor yX14_weak.desc).map (fun d => d.parameters.length) = some 2 := by decide +kernel
theorem hdL_X13_rise : yX13_rise.cls = RX13 ∧ yX13_rise.cls ≠ "java/lang/invoke/MethodHandle" ∧ yX13_rise.cls ≠ "java/lang/invoke/VarHandle" ∧ (parseMethodDescriptor yX13_rise.desc).map (fun d => d.parameters.length) = some 2 := by decide +kernel
theorem hdL_X14_rise : yX14_rise.cls = RX14 ∧ yX14_rise.cls ≠ "java/lang/invoke/MethodHandle" ∧ yX14_rise.cls ≠ "java/lang/invoke/VarHandle" ∧ (parseMethodDescriptor yX14_rise.desc).map (fun d => d.parameters.length) = some 2 := by decide +kernel
theorem hdL_X13_shows : yX13_shows.cls = RX13 ∧ yX13_shows.cls ≠ "java/lang/invoke/MethodHandle" ∧ yX13_shows.cls ≠ "java/lang/invoke/VarHandle" ∧ (parseMethodDescriptor yX13_shows.desc).map (fun d => d.parameters.length) = some 2 := by decide +kernel
theorem hdL_X14_shows : yX14_shows.cls = RX14 ∧ yX14_shows.cls ≠ "java/lang/invoke/MethodHandle" ∧ yX14_shows.cls ≠ "java/lang/invoke/VarHandle" ∧ (parseMethodDescriptor yX14_shows.desc).map (fun d => d.parameters.length) = some 2 := by decide +kernel
theorem hdL_X13_most : yX13_most.cls = RX13 ∧ yX13_most.cls ≠ "java/lang/invoke/MethodHandle" ∧ yX13_most.cls ≠ "java/lang/invoke/VarHandle" ∧ (parseMethodDescriptor yX13_most.desc).map (fun d => d.parameters.length) = some 2 := by decide +kernel
theorem hdL_X14_most : yX14_most.cls = RX14 ∧ yX14_most.cls ≠ "java/lang/invoke/MethodHandle" ∧ yX14_most.cls ≠ "java/lang/invoke/VarHandle" ∧ (parseMethodDescriptor yX14_most.desc).map (fun d => d.parameters.length) = some 2 := by decide +kernel
theorem hdL_X13_law : yX13_law.cls = RX13 ∧ yX13_law.cls ≠ "java/lang/invoke/MethodHandle" ∧ yX13_law.cls ≠ "java/lang/invoke/VarHandle" ∧ (parseMethodDescriptor yX13_law.desc).map (fun d => d.parameters.length) = some 2 := by decide +kernel
theorem hdL_X14_law : yX14_law.cls = RX14 ∧ yX14_law.cls ≠ "java/lang/invoke/MethodHandle" ∧ yX14_law.cls ≠ "java/lang/invoke/VarHandle" ∧ (parseMethodDescriptor yX14_law.desc).map (fun d => d.parameters.length) = some 2 := by decide +kernel
theorem hdL_X13_where : yX13_where.cls = RX13 ∧ yX13_where.cls ≠ "java/lang/invoke/MethodHandle" ∧ yX13_where.cls ≠ "java/lang/invoke/VarHandle" ∧ (parseMethodDescriptor yX13_where.desc).map (fun d => d.parameters.length) = some 2 := by decide +kernel
theorem hdL_X14_where : yX14_where.cls = RX14 ∧ yX14_where.cls ≠ "java/lang/invoke/MethodHandle" ∧ yX14_where.cls ≠ "java/lang/invoke/VarHandle" ∧ (parseMethodDescriptor yX14_where.desc).map (fun d => d.parameters.length) = some 2 := by decide +kernel
theorem hdL_X13_reaches : yX13_reaches.cls = RX13 ∧ yX13_reaches.cls ≠ "java/lang/invoke/MethodHandle" ∧ yX13_reaches.cls ≠ "java/lang/invoke/VarHandle" ∧ (parseMethodDescriptor yX13_reaches.desc).map (fun d => d.parameters.length) = some 2 := by decide +kernel
theorem hdL_X14_reaches : yX14_reaches.cls = RX14 ∧ yX14_reaches.cls ≠ "java/lang/invoke/MethodHandle" ∧ yX14_reaches.cls ≠ "java/lang/invoke/VarHandle" ∧ (parseMethodDescriptor yX14_reaches.desc).map (fun d => d.parameters.length) = some 2 := by decide +kernel
theorem hdL_X13_first : yX13_first.cls = RX13 ∧ yX13_first.cls ≠ "java/lang/invoke/MethodHandle" ∧ yX13_first.cls ≠ "java/lang/invoke/VarHandle" ∧ (parseMethodDescriptor yX13_first.desc).map (fun d => d.parameters.length) = some 1 := by decide +kernel
theorem hdL_X14_first : yX14_first.cls = RX14 ∧ yX14_first.cls ≠ "java/lang/invoke/MethodHandle" ∧ yX14_first.cls ≠ "java/lang/invoke/VarHandle" ∧ (parseMethodDescriptor yX14_first.desc).map (fun d => d.parameters.length) = some 1 := by decide +kernel
theorem hdL_X13_lie : yX13_lie.cls = RX13 ∧ yX13_lie.cls ≠ "java/lang/invoke/MethodHandle" ∧ yX13_lie.cls ≠ "java/lang/invoke/VarHandle" ∧ (parseMethodDescriptor yX13_lie.desc).map (fun d => d.parameters.length) = some 5 := by decide +kernel
theorem hdL_X14_lie : yX14_lie.cls = RX14 ∧ yX14_lie.cls ≠ "java/lang/invoke/MethodHandle" ∧ yX14_lie.cls ≠ "java/lang/invoke/VarHandle" ∧ (parseMethodDescriptor yX14_lie.desc).map (fun d => d.parameters.length) = some 5 := by decide +kernel
theorem hdL_X13_fall : yX13_fall.cls = RX13 ∧ yX13_fall.cls ≠ "java/lang/invoke/MethodHandle" ∧ yX13_fall.cls ≠ "java/lang/invoke/VarHandle" ∧ (parseMethodDescriptor yX13_fall.desc).map (fun d => d.parameters.length) = some 3 := by decide +kernel
theorem hdL_X14_fall : yX14_fall.cls = RX14 ∧ yX14_fall.cls ≠ "java/lang/invoke/MethodHandle" ∧ yX14_fall.cls ≠ "java/lang/invoke/VarHandle" ∧ (parseMethodDescriptor yX14_fall.desc).map (fun d => d.parameters.length) = some 3 := by decide +kernel
theorem hdL_X13_cut : yX13_cut.cls = RX13 ∧ yX13_cut.cls ≠ "java/lang/invoke/MethodHandle" ∧ yX13_cut.cls ≠ "java/lang/invoke/VarHandle" ∧ (parseMethodDescriptor yX13_cut.desc).map (fun d => d.parameters.length) = some 1 := by decide +kernel
theorem hdL_X14_cut : yX14_cut.cls = RX14 ∧ yX14_cut.cls ≠ "java/lang/invoke/MethodHandle" ∧ yX14_cut.cls ≠ "java/lang/invoke/VarHandle" ∧ (parseMethodDescriptor yX14_cut.desc).map (fun d => d.parameters.length) = some 1 := by decide +kernel
theorem hdL_X13_undo : yX13_undo.cls = RX13 ∧ yX13_undo.cls ≠ "java/lang/invoke/MethodHandle" ∧ yX13_undo.cls ≠ "java/lang/invoke/VarHandle" ∧ (parseMethodDescriptor yX13_undo.desc).map (fun d => d.parameters.length) = some 0 := by decide +kernel
theorem hdL_X14_undo : yX14_undo.cls = RX14 ∧ yX14_undo.cls ≠ "java/lang/invoke/MethodHandle" ∧ yX14_undo.cls ≠ "java/lang/invoke/VarHandle" ∧ (parseMethodDescriptor yX14_undo.desc).map (fun d => d.parameters.length) = some 0 := by decide +kernel
theorem hdL_X13_note : yX13_note.cls = RX13 ∧ yX13_note.cls ≠ "java/lang/invoke/MethodHandle" ∧ yX13_note.cls ≠ "java/lang/invoke/VarHandle" ∧ (parseMethodDescriptor yX13_note.desc).map (fun d => d.parameters.length) = some 3 := by decide +kernel
theorem hdL_X14_note : yX14_note.cls = RX14 ∧ yX14_note.cls ≠ "java/lang/invoke/MethodHandle" ∧ yX14_note.cls ≠ "java/lang/invoke/VarHandle" ∧ (parseMethodDescriptor yX14_note.desc).map (fun d => d.parameters.length) = some 3 := by decide +kernel
theorem hdL_X13_strike : yX13_strike.cls = RX13 ∧ yX13_strike.cls ≠ "java/lang/invoke/MethodHandle" ∧ yX13_strike.cls ≠ "java/lang/invoke/VarHandle" ∧ (parseMethodDescriptor yX13_strike.desc).map (fun d => d.parameters.length) = some 1 := by decide +kernel
theorem hdL_X14_strike : yX14_strike.cls = RX14 ∧ yX14_strike.cls ≠ "java/lang/invoke/MethodHandle" ∧ yX14_strike.cls ≠ "java/lang/invoke/VarHandle" ∧ (parseMethodDescriptor yX14_strike.desc).map (fun d => d.parameters.length) = some 1 := by decide +kernel
theorem hdL_X13_known : yX13_known.cls = RX13 ∧ yX13_known.cls ≠ "java/lang/invoke/MethodHandle" ∧ yX13_known.cls ≠ "java/lang/invoke/VarHandle" ∧ (parseMethodDescriptor yX13_known.desc).map (fun d => d.parameters.length) = some 1 := by decide +kernel
theorem hdL_X14_known : yX14_known.cls = RX14 ∧ yX14_known.cls ≠ "java/lang/invoke/MethodHandle" ∧ yX14_known.cls ≠ "java/lang/invoke/VarHandle" ∧ (parseMethodDescriptor yX14_known.desc).map (fun d => d.parameters.length) = some 1 := by decide +kernel
theorem hdL_X13_tales : yX13_tales.cls = RX13 ∧ yX13_tales.cls ≠ "java/lang/invoke/MethodHandle" ∧ yX13_tales.cls ≠ "java/lang/invoke/VarHandle" ∧ (parseMethodDescriptor yX13_tales.desc).map (fun d => d.parameters.length) = some 0 := by decide +kernel
theorem hdL_X14_tales : yX14_tales.cls = RX14 ∧ yX14_tales.cls ≠ "java/lang/invoke/MethodHandle" ∧ yX14_tales.cls ≠ "java/lang/invoke/VarHandle" ∧ (parseMethodDescriptor yX14_tales.desc).map (fun d => d.parameters.length) = some 0 := by decide +kernel
theorem hdL_X13_tale : yX13_tale.cls = RX13 ∧ yX13_tale.cls ≠ "java/lang/invoke/MethodHandle" ∧ yX13_tale.cls ≠ "java/lang/invoke/VarHandle" ∧ (parseMethodDescriptor yX13_tale.desc).map (fun d => d.parameters.length) = some 2 := by decide +kernel
theorem hdL_X14_tale : yX14_tale.cls = RX14 ∧ yX14_tale.cls ≠ "java/lang/invoke/MethodHandle" ∧ yX14_tale.cls ≠ "java/lang/invoke/VarHandle" ∧ (parseMethodDescriptor yX14_tale.desc).map (fun d => d.parameters.length) = some 2 := by decide +kernel
theorem hdL_X13_likeliest : yX13_likeliest.cls = RX13 ∧ yX13_likeliest.cls ≠ "java/lang/invoke/MethodHandle" ∧ yX13_likeliest.cls ≠ "java/lang/invoke/VarHandle" ∧ (parseMethodDescriptor yX13_likeliest.desc).map (fun d => d.parameters.length) = some 1 := by decide +kernel
theorem hdL_X14_likeliest : yX14_likeliest.cls = RX14 ∧ yX14_likeliest.cls ≠ "java/lang/invoke/MethodHandle" ∧ yX14_likeliest.cls ≠ "java/lang/invoke/VarHandle" ∧ (parseMethodDescriptor yX14_likeliest.desc).map (fun d => d.parameters.length) = some 1 := by decide +kernel
theorem hdL_X13_fits : yX13_fits.cls = RX13 ∧ yX13_fits.cls ≠ "java/lang/invoke/MethodHandle" ∧ yX13_fits.cls ≠ "java/lang/invoke/VarHandle" ∧ (parseMethodDescriptor yX13_fits.desc).map (fun d => d.parameters.length) = some 0 := by decide +kernel
theorem hdL_X14_fits : yX14_fits.cls = RX14 ∧ yX14_fits.cls ≠ "java/lang/invoke/MethodHandle" ∧ yX14_fits.cls ≠ "java/lang/invoke/VarHandle" ∧ (parseMethodDescriptor yX14_fits.desc).map (fun d => d.parameters.length) = some 0 := by decide +kernel
theorem hdL_X13_looks : yX13_looks.cls = RX13 ∧ yX13_looks.cls ≠ "java/lang/invoke/MethodHandle" ∧ yX13_looks.cls ≠ "java/lang/invoke/VarHandle" ∧ (parseMethodDescriptor yX13_looks.desc).map (fun d => d.parameters.length) = some 4 := by decide +kernel
theorem hdL_X14_looks : yX14_looks.cls = RX14 ∧ yX14_looks.cls ≠ "java/lang/invoke/MethodHandle" ∧ yX14_looks.cls ≠ "java/lang/invoke/VarHandle" ∧ (parseMethodDescriptor yX14_looks.desc).map (fun d => d.parameters.length) = some 4 := by decide +kernel
theorem hdL_X13_still : yX13_still.cls = RX13 ∧ yX13_still.cls ≠ "java/lang/invoke/MethodHandle" ∧ yX13_still.cls ≠ "java/lang/invoke/VarHandle" ∧ (parseMethodDescriptor yX13_still.desc).map (fun d => d.parameters.length) = some 5 := by decide +kernel
theorem hdL_X14_still : yX14_still.cls = RX14 ∧ yX14_still.cls ≠ "java/lang/invoke/MethodHandle" ∧ yX14_still.cls ≠ "java/lang/invoke/VarHandle" ∧ (parseMethodDescriptor yX14_still.desc).map (fun d => d.parameters.length) = some 5 := by decide +kernel
theorem hdL_X13_chance : yX13_chance.cls = RX13 ∧ yX13_chance.cls ≠ "java/lang/invoke/MethodHandle" ∧ yX13_chance.cls ≠ "java/lang/invoke/VarHandle" ∧ (parseMethodDescriptor yX13_chance.desc).map (fun d => d.parameters.length) = some 5 := by decide +kernel
theorem hdL_X14_chance : yX14_chance.cls = RX14 ∧ yX14_chance.cls ≠ "java/lang/invoke/MethodHandle" ∧ yX14_chance.cls ≠ "java/lang/invoke/VarHandle" ∧ (parseMethodDescriptor yX14_chance.desc).map (fun d => d.parameters.length) = some 5 := by decide +kernel
theorem hdL_X13_keep : yX13_keep.cls = RX13 ∧ yX13_keep.cls ≠ "java/lang/invoke/MethodHandle" ∧ yX13_keep.cls ≠ "java/lang/invoke/VarHandle" ∧ (parseMethodDescriptor yX13_keep.desc).map (fun d => d.parameters.length) = some 0 := by decide +kernel
theorem hdL_X14_keep : yX14_keep.cls = RX14 ∧ yX14_keep.cls ≠ "java/lang/invoke/MethodHandle" ∧ yX14_keep.cls ≠ "java/lang/invoke/VarHandle" ∧ (parseMethodDescriptor yX14_keep.desc).map (fun d => d.parameters.length) = some 0 := by decide +kernel
theorem hdL_X13_back : yX13_back.cls = RX13 ∧ yX13_back.cls ≠ "java/lang/invoke/MethodHandle" ∧ yX13_back.cls ≠ "java/lang/invoke/VarHandle" ∧ (parseMethodDescriptor yX13_back.desc).map (fun d => d.parameters.length) = some 0 := by decide +kernel
theorem hdL_X14_back : yX14_back.cls = RX14 ∧ yX14_back.cls ≠ "java/lang/invoke/MethodHandle" ∧ yX14_back.cls ≠ "java/lang/invoke/VarHandle" ∧ (parseMethodDescriptor yX14_back.desc).map (fun d => d.parameters.length) = some 0 := by decide +kernel
theorem hdL_X13_count : yX13_count.cls = RX13 ∧ yX13_count.cls ≠ "java/lang/invoke/MethodHandle" ∧ yX13_count.cls ≠ "java/lang/invoke/VarHandle" ∧ (parseMethodDescriptor yX13_count.desc).map (fun d => d.parameters.length) = some 1 := by decide +kernel
theorem hdL_X14_count : yX14_count.cls = RX14 ∧ yX14_count.cls ≠ "java/lang/invoke/MethodHandle" ∧ yX14_count.cls ≠ "java/lang/invoke/VarHandle" ∧ (parseMethodDescriptor yX14_count.desc).map (fun d => d.parameters.length) = some 1 := by decide +kernel
/-! ===== the cases of the law ===== -/
section LCS
variable {z : Mz} {aR : Int → Nat} {oa b L : Nat} {xs : Nat → Int32} {p : Program} {l : Launch} {e : Env} {s : State} {m : MethodId} {below : List Frame} {meth : Method} {c : Code} {Q : State → Prop} {cells slots pc : Nat} {lo : List (Nat × Value)} {st : List Value} {q r : Mh} {ov : Int} {i : Int}
theorem lc_feed (C : lC z aR oa b L xs p s m c) (hlo : lok z aR oa b i lo) (i0 : 0 ≤ i) (hi : i + 6 ≤ L) (hL : L ≤ 3072) (hcs : cells ≤ 601024) (hss : slots ≤ 7293033) (h : Rel q r) (k : ∀ q' r' : Mh, Rel q' r' → lG z aR oa b p l e s m below meth c Q cells slots 1503 lo [] q' r' ov) : lG z aR oa b p l e s m below meth c Q cells slots 192 lo [] q r ov := by
  refine l_x C hlo dL_law_192 ?_
  refine l_arg C hlo i0 (by decide) (by omega) hL dL_law_193 dL_law_194 dL_law_196 dL_law_197 dL_law_198 rfl rfl rfl rfl rfl ?_
  refine l_arg C hlo i0 (by decide) (by omega) hL dL_law_199 dL_law_200 dL_law_202 dL_law_203 dL_law_204 rfl rfl rfl rfl rfl ?_
  refine l_arg C hlo i0 (by decide) (by omega) hL dL_law_205 dL_law_206 dL_law_208 dL_law_209 dL_law_210 rfl rfl rfl rfl rfl ?_
  refine l_arg C hlo i0 (by decide) (by omega) hL dL_law_211 dL_law_212 dL_law_214 dL_law_215 dL_law_216 rfl rfl rfl rfl rfl ?_
  refine l_arg C hlo i0 (by decide) (by omega) hL dL_law_217 dL_law_218 dL_law_220 dL_law_221 dL_law_222 rfl rfl rfl rfl rfl ?_
  refine l_callC C (av := [(0, sx xs i 1), (0, sx xs i 2), (0, sx xs i 3), (0, sx xs i 4), (0, sx xs i 5)]) (st := []) (n := 5) (sim_X13_feed (op_feed (sx xs i 1) (sx xs i 2) (sx xs i 3) (sx xs i 4) (sx xs i 5) h.1.1)) k_705 k_706 k_707 k_134 k_708 hdL_X13_feed rfl rfl rfl (mok_cons (sx_r) (mok_cons (sx_r) (mok_cons (sx_r) (mok_cons (sx_r) (mok_cons (sx_r) (fun _ y => by cases y)))))) rfl (Nat.le_of_ble_eq_true rfl) dL_law_223 hcs hss (fun x q' hx hok => ?_)
  obtain ⟨x, rfl, hx⟩ := hx
  refine l_m C hlo dL_law_226 ?_
  refine l_arg C hlo i0 (by decide) (by omega) hL dL_law_227 dL_law_228 dL_law_230 dL_law_231 dL_law_232 rfl rfl rfl rfl rfl ?_
  refine l_arg C hlo i0 (by decide) (by omega) hL dL_law_233 dL_law_234 dL_law_236 dL_law_237 dL_law_238 rfl rfl rfl rfl rfl ?_
  refine l_arg C hlo i0 (by decide) (by omega) hL dL_law_239 dL_law_240 dL_law_242 dL_law_243 dL_law_244 rfl rfl rfl rfl rfl ?_
  refine l_arg C hlo i0 (by decide) (by omega) hL dL_law_245 dL_law_246 dL_law_248 dL_law_249 dL_law_250 rfl rfl rfl rfl rfl ?_
  refine l_arg C hlo i0 (by decide) (by omega) hL dL_law_251 dL_law_252 dL_law_254 dL_law_255 dL_law_256 rfl rfl rfl rfl rfl ?_
  refine l_callR C (av := [(0, sx xs i 1), (0, sx xs i 2), (0, sx xs i 3), (0, sx xs i 4), (0, sx xs i 5)]) (st := [.int (Int32.ofInt x)]) (n := 5) (sim_X14_feed hx) k_1890 k_1891 k_1892 k_147 k_1893 hdL_X14_feed rfl rfl rfl (mok_cons (sx_r) (mok_cons (sx_r) (mok_cons (sx_r) (mok_cons (sx_r) (mok_cons (sx_r) (fun _ y => by cases y)))))) rfl (Nat.le_of_ble_eq_true rfl) dL_law_257 hcs hss (fun y r' hy hok2 => ?_)
  obtain ⟨y, rfl, rfl, hT, f1, f2⟩ := hy
  refine l_eqI (x := Int32.ofInt x) C dL_law_260 rfl ?_
  exact k _ _ (post_feed h hT f1 f2)
theorem lc_text (C : lC z aR oa b L xs p s m c) (hlo : lok z aR oa b i lo) (i0 : 0 ≤ i) (hi : i + 6 ≤ L) (hL : L ≤ 3072) (hcs : cells ≤ 601024) (hss : slots ≤ 7293033) (h : Rel q r) (k : ∀ q' r' : Mh, Rel q' r' → lG z aR oa b p l e s m below meth c Q cells slots 1503 lo [] q' r' ov) : lG z aR oa b p l e s m below meth c Q cells slots 265 lo [] q r ov := by
  refine l_x C hlo dL_law_265 ?_
  refine l_arg C hlo i0 (by decide) (by omega) hL dL_law_266 dL_law_267 dL_law_269 dL_law_270 dL_law_271 rfl rfl rfl rfl rfl ?_
  refine l_callC C (av := [(0, sx xs i 1)]) (st := []) (n := 1) (sim_X13_text (op_text (sx xs i 1) h)) k_713 k_714 k_715 k_134 k_716 hdL_X13_text rfl rfl rfl (mok_cons (sx_r) (fun _ y => by cases y)) rfl (Nat.le_of_ble_eq_true rfl) dL_law_272 hcs hss (fun x q' hx hok => ?_)
  obtain ⟨x, rfl, hx⟩ := hx
  refine l_m C hlo dL_law_275 ?_
  refine l_arg C hlo i0 (by decide) (by omega) hL dL_law_276 dL_law_277 dL_law_279 dL_law_280 dL_law_281 rfl rfl rfl rfl rfl ?_
  refine l_callR C (av := [(0, sx xs i 1)]) (st := [.int (Int32.ofInt x)]) (n := 1) (sim_X14_text hx) k_1894 k_1895 k_1896 k_147 k_1897 hdL_X14_text rfl rfl rfl (mok_cons (sx_r) (fun _ y => by cases y)) rfl (Nat.le_of_ble_eq_true rfl) dL_law_282 hcs hss (fun y r' hy hok2 => ?_)
  obtain ⟨y, rfl, rfl, hR⟩ := hy
  refine l_eqI (x := Int32.ofInt x) C dL_law_285 rfl ?_
  exact k _ _ (hR)
theorem lc_fault (C : lC z aR oa b L xs p s m c) (hlo : lok z aR oa b i lo) (i0 : 0 ≤ i) (hi : i + 6 ≤ L) (hL : L ≤ 3072) (hcs : cells ≤ 601024) (hss : slots ≤ 7293033) (h : Rel q r) (k : ∀ q' r' : Mh, Rel q' r' → lG z aR oa b p l e s m below meth c Q cells slots 1503 lo [] q' r' ov) : lG z aR oa b p l e s m below meth c Q cells slots 290 lo [] q r ov := by
  refine l_x C hlo dL_law_290 ?_
  refine l_arg C hlo i0 (by decide) (by omega) hL dL_law_291 dL_law_292 dL_law_294 dL_law_295 dL_law_296 rfl rfl rfl rfl rfl ?_
  refine l_callC C (av := [(0, sx xs i 1)]) (st := []) (n := 1) (sim_X13_fault (op_fault (sx xs i 1) h.1.2.1)) k_976 k_977 k_978 k_134 k_979 hdL_X13_fault rfl rfl rfl (mok_cons (sx_r) (fun _ y => by cases y)) rfl (Nat.le_of_ble_eq_true rfl) dL_law_297 hcs hss (fun x q' hx hok => ?_)
  obtain ⟨x, rfl, hx⟩ := hx
  refine l_m C hlo dL_law_300 ?_
  refine l_arg C hlo i0 (by decide) (by omega) hL dL_law_301 dL_law_302 dL_law_304 dL_law_305 dL_law_306 rfl rfl rfl rfl rfl ?_
  refine l_callR C (av := [(0, sx xs i 1)]) (st := [.int (Int32.ofInt x)]) (n := 1) (sim_X14_fault hx) k_2023 k_2024 k_2025 k_147 k_2026 hdL_X14_fault rfl rfl rfl (mok_cons (sx_r) (fun _ y => by cases y)) rfl (Nat.le_of_ble_eq_true rfl) dL_law_307 hcs hss (fun y r' hy hok2 => ?_)
  obtain ⟨y, rfl, rfl, e1, e2⟩ := hy
  refine l_eqI (x := Int32.ofInt x) C dL_law_310 rfl ?_
  exact k _ _ (post_same h e1 e2)
theorem lc_named (C : lC z aR oa b L xs p s m c) (hlo : lok z aR oa b i lo) (i0 : 0 ≤ i) (hi : i + 6 ≤ L) (hL : L ≤ 3072) (hcs : cells ≤ 601024) (hss : slots ≤ 7293033) (h : Rel q r) (k : ∀ q' r' : Mh, Rel q' r' → lG z aR oa b p l e s m below meth c Q cells slots 1503 lo [] q' r' ov) : lG z aR oa b p l e s m below meth c Q cells slots 315 lo [] q r ov := by
  refine l_x C hlo dL_law_315 ?_
  refine l_arg C hlo i0 (by decide) (by omega) hL dL_law_316 dL_law_317 dL_law_319 dL_law_320 dL_law_321 rfl rfl rfl rfl rfl ?_
  refine l_arg C hlo i0 (by decide) (by omega) hL dL_law_322 dL_law_323 dL_law_325 dL_law_326 dL_law_327 rfl rfl rfl rfl rfl ?_
  refine l_callC C (av := [(0, sx xs i 1), (0, sx xs i 2)]) (st := []) (n := 2) (sim_X13_named (op_named (sx xs i 1) (sx xs i 2) h.1.2.2.1.1.1 h.1.2.2.1.2.2.1.1 h.1.2.2.1.2.2.1.2.1 h.1.2.2.1.2.2.2.1.1 h.1.2.2.1.2.2.2.1.2.1 h.1.2.2.1.2.2.2.2.1.1 h.1.2.2.1.2.2.2.2.1.2.1 h.1.2.2.1.2.2.2.2.2.1.1 h.1.2.2.1.2.2.2.2.2.1.2.1)) k_980 k_981 k_982 k_134 k_983 hdL_X13_named rfl rfl rfl (mok_cons (sx_r) (mok_cons (sx_r) (fun _ y => by cases y))) rfl (Nat.le_of_ble_eq_true rfl) dL_law_328 hcs hss (fun x q' hx hok => ?_)
  obtain ⟨x, rfl, hx⟩ := hx
  refine l_m C hlo dL_law_331 ?_
  refine l_arg C hlo i0 (by decide) (by omega) hL dL_law_332 dL_law_333 dL_law_335 dL_law_336 dL_law_337 rfl rfl rfl rfl rfl ?_
  refine l_arg C hlo i0 (by decide) (by omega) hL dL_law_338 dL_law_339 dL_law_341 dL_law_342 dL_law_343 rfl rfl rfl rfl rfl ?_
  refine l_callR C (av := [(0, sx xs i 1), (0, sx xs i 2)]) (st := [.int (Int32.ofInt x)]) (n := 2) (sim_X14_named hx) k_2027 k_2028 k_2029 k_147 k_2030 hdL_X14_named rfl rfl rfl (mok_cons (sx_r) (mok_cons (sx_r) (fun _ y => by cases y))) rfl (Nat.le_of_ble_eq_true rfl) dL_law_344 hcs hss (fun y r' hy hok2 => ?_)
  obtain ⟨y, rfl, rfl, e1, e2⟩ := hy
  refine l_eqI (x := Int32.ofInt x) C dL_law_347 rfl ?_
  exact k _ _ (post_same h e1 e2)
theorem lc_cell (C : lC z aR oa b L xs p s m c) (hlo : lok z aR oa b i lo) (i0 : 0 ≤ i) (hi : i + 6 ≤ L) (hL : L ≤ 3072) (hcs : cells ≤ 601024) (hss : slots ≤ 7293033) (h : Rel q r) (k : ∀ q' r' : Mh, Rel q' r' → lG z aR oa b p l e s m below meth c Q cells slots 1503 lo [] q' r' ov) : lG z aR oa b p l e s m below meth c Q cells slots 420 lo [] q r ov := by
  refine l_x C hlo dL_law_420 ?_
  refine l_arg C hlo i0 (by decide) (by omega) hL dL_law_421 dL_law_422 dL_law_424 dL_law_425 dL_law_426 rfl rfl rfl rfl rfl ?_
  refine l_arg C hlo i0 (by decide) (by omega) hL dL_law_427 dL_law_428 dL_law_430 dL_law_431 dL_law_432 rfl rfl rfl rfl rfl ?_
  refine l_callC C (av := [(0, sx xs i 1), (0, sx xs i 2)]) (st := []) (n := 2) (sim_X13_cell (op_cell (sx xs i 1) (sx xs i 2) h)) k_985 k_986 k_987 k_134 k_988 hdL_X13_cell rfl rfl rfl (mok_cons (sx_r) (mok_cons (sx_r) (fun _ y => by cases y))) rfl (Nat.le_of_ble_eq_true rfl) dL_law_433 hcs hss (fun x q' hx hok => ?_)
  obtain ⟨x, rfl, hx⟩ := hx
  refine l_m C hlo dL_law_436 ?_
  refine l_arg C hlo i0 (by decide) (by omega) hL dL_law_437 dL_law_438 dL_law_440 dL_law_441 dL_law_442 rfl rfl rfl rfl rfl ?_
  refine l_arg C hlo i0 (by decide) (by omega) hL dL_law_443 dL_law_444 dL_law_446 dL_law_447 dL_law_448 rfl rfl rfl rfl rfl ?_
  refine l_callR C (av := [(0, sx xs i 1), (0, sx xs i 2)]) (st := [.int (Int32.ofInt x)]) (n := 2) (sim_X14_cell hx) k_2051 k_2052 k_2053 k_147 k_2054 hdL_X14_cell rfl rfl rfl (mok_cons (sx_r) (mok_cons (sx_r) (fun _ y => by cases y))) rfl (Nat.le_of_ble_eq_true rfl) dL_law_449 hcs hss (fun y r' hy hok2 => ?_)
  obtain ⟨y, rfl, rfl, hR⟩ := hy
  refine l_eqI (x := Int32.ofInt x) C dL_law_452 rfl ?_
  exact k _ _ (hR)
theorem lc_drop (C : lC z aR oa b L xs p s m c) (hlo : lok z aR oa b i lo) (i0 : 0 ≤ i) (hi : i + 6 ≤ L) (hL : L ≤ 3072) (hcs : cells ≤ 601024) (hss : slots ≤ 7293033) (h : Rel q r) (k : ∀ q' r' : Mh, Rel q' r' → lG z aR oa b p l e s m below meth c Q cells slots 1503 lo [] q' r' ov) : lG z aR oa b p l e s m below meth c Q cells slots 457 lo [] q r ov := by
  refine l_x C hlo dL_law_457 ?_
  refine l_arg C hlo i0 (by decide) (by omega) hL dL_law_458 dL_law_459 dL_law_461 dL_law_462 dL_law_463 rfl rfl rfl rfl rfl ?_
  refine l_arg C hlo i0 (by decide) (by omega) hL dL_law_464 dL_law_465 dL_law_467 dL_law_468 dL_law_469 rfl rfl rfl rfl rfl ?_
  refine l_callC C (av := [(0, sx xs i 1), (0, sx xs i 2)]) (st := []) (n := 2) (sim_X13_drop (op_drop (sx xs i 1) (sx xs i 2) h.1.2.2.2.2.1.1 h.1.2.2.2.2.1.2.1 h.1.2.2.2.2.1.2.2.1 (fun d a b => ⟨(h.1.2.2.2.2.1.2.2.2 d a b).1, (h.1.2.2.2.2.1.2.2.2 d a b).2.1, (h.1.2.2.2.2.1.2.2.2 d a b).2.2.1⟩))) k_1005 k_1006 k_1007 k_134 k_1008 hdL_X13_drop rfl rfl rfl (mok_cons (sx_r) (mok_cons (sx_r) (fun _ y => by cases y))) rfl (Nat.le_of_ble_eq_true rfl) dL_law_470 hcs hss (fun x q' hx hok => ?_)
  obtain ⟨x, rfl, hx⟩ := hx
  refine l_m C hlo dL_law_473 ?_
  refine l_arg C hlo i0 (by decide) (by omega) hL dL_law_474 dL_law_475 dL_law_477 dL_law_478 dL_law_479 rfl rfl rfl rfl rfl ?_
  refine l_arg C hlo i0 (by decide) (by omega) hL dL_law_480 dL_law_481 dL_law_483 dL_law_484 dL_law_485 rfl rfl rfl rfl rfl ?_
  refine l_callR C (av := [(0, sx xs i 1), (0, sx xs i 2)]) (st := [.int (Int32.ofInt x)]) (n := 2) (sim_X14_drop hx) k_2055 k_2056 k_2057 k_147 k_2058 hdL_X14_drop rfl rfl rfl (mok_cons (sx_r) (mok_cons (sx_r) (fun _ y => by cases y))) rfl (Nat.le_of_ble_eq_true rfl) dL_law_486 hcs hss (fun y r' hy hok2 => ?_)
  obtain ⟨y, rfl, rfl, e1, e2⟩ := hy
  refine l_eqI (x := Int32.ofInt x) C dL_law_489 rfl ?_
  exact k _ _ (post_same h e1 e2)
theorem lc_far (C : lC z aR oa b L xs p s m c) (hlo : lok z aR oa b i lo) (i0 : 0 ≤ i) (hi : i + 6 ≤ L) (hL : L ≤ 3072) (hcs : cells ≤ 601024) (hss : slots ≤ 7293033) (h : Rel q r) (k : ∀ q' r' : Mh, Rel q' r' → lG z aR oa b p l e s m below meth c Q cells slots 1503 lo [] q' r' ov) : lG z aR oa b p l e s m below meth c Q cells slots 494 lo [] q r ov := by
  refine l_x C hlo dL_law_494 ?_
  refine l_arg C hlo i0 (by decide) (by omega) hL dL_law_495 dL_law_496 dL_law_498 dL_law_499 dL_law_500 rfl rfl rfl rfl rfl ?_
  refine l_arg C hlo i0 (by decide) (by omega) hL dL_law_501 dL_law_502 dL_law_504 dL_law_505 dL_law_506 rfl rfl rfl rfl rfl ?_
  refine l_callC C (av := [(0, sx xs i 1), (0, sx xs i 2)]) (st := []) (n := 2) (sim_X13_far (op_far (sx xs i 1) (sx xs i 2) h)) k_1013 k_1014 k_1015 k_134 k_1016 hdL_X13_far rfl rfl rfl (mok_cons (sx_r) (mok_cons (sx_r) (fun _ y => by cases y))) rfl (Nat.le_of_ble_eq_true rfl) dL_law_507 hcs hss (fun x q' hx hok => ?_)
  obtain ⟨x, rfl, hx⟩ := hx
  refine l_m C hlo dL_law_510 ?_
  refine l_arg C hlo i0 (by decide) (by omega) hL dL_law_511 dL_law_512 dL_law_514 dL_law_515 dL_law_516 rfl rfl rfl rfl rfl ?_
  refine l_arg C hlo i0 (by decide) (by omega) hL dL_law_517 dL_law_518 dL_law_520 dL_law_521 dL_law_522 rfl rfl rfl rfl rfl ?_
  refine l_callR C (av := [(0, sx xs i 1), (0, sx xs i 2)]) (st := [.int (Int32.ofInt x)]) (n := 2) (sim_X14_far hx) k_2031 k_2032 k_2033 k_147 k_2034 hdL_X14_far rfl rfl rfl (mok_cons (sx_r) (mok_cons (sx_r) (fun _ y => by cases y))) rfl (Nat.le_of_ble_eq_true rfl) dL_law_523 hcs hss (fun y r' hy hok2 => ?_)
  obtain ⟨y, rfl, rfl, hR⟩ := hy
  refine l_eqI (x := Int32.ofInt x) C dL_law_526 rfl ?_
  exact k _ _ (hR)
theorem lc_weak (C : lC z aR oa b L xs p s m c) (hlo : lok z aR oa b i lo) (i0 : 0 ≤ i) (hi : i + 6 ≤ L) (hL : L ≤ 3072) (hcs : cells ≤ 601024) (hss : slots ≤ 7293033) (h : Rel q r) (k : ∀ q' r' : Mh, Rel q' r' → lG z aR oa b p l e s m below meth c Q cells slots 1503 lo [] q' r' ov) : lG z aR oa b p l e s m below meth c Q cells slots 531 lo [] q r ov := by
  refine l_x C hlo dL_law_531 ?_
  refine l_arg C hlo i0 (by decide) (by omega) hL dL_law_532 dL_law_533 dL_law_535 dL_law_536 dL_law_537 rfl rfl rfl rfl rfl ?_
  refine l_arg C hlo i0 (by decide) (by omega) hL dL_law_538 dL_law_539 dL_law_541 dL_law_542 dL_law_543 rfl rfl rfl rfl rfl ?_
  refine l_callC C (av := [(0, sx xs i 1), (0, sx xs i 2)]) (st := []) (n := 2) (sim_X13_weak (op_weak (sx xs i 1) (sx xs i 2) h)) k_1052 k_1053 k_1054 k_134 k_1055 hdL_X13_weak rfl rfl rfl (mok_cons (sx_r) (mok_cons (sx_r) (fun _ y => by cases y))) rfl (Nat.le_of_ble_eq_true rfl) dL_law_544 hcs hss (fun x q' hx hok => ?_)
  obtain ⟨x, rfl, hx⟩ := hx
  refine l_m C hlo dL_law_547 ?_
  refine l_arg C hlo i0 (by decide) (by omega) hL dL_law_548 dL_law_549 dL_law_551 dL_law_552 dL_law_553 rfl rfl rfl rfl rfl ?_
  refine l_arg C hlo i0 (by decide) (by omega) hL dL_law_554 dL_law_555 dL_law_557 dL_law_558 dL_law_559 rfl rfl rfl rfl rfl ?_
  refine l_callR C (av := [(0, sx xs i 1), (0, sx xs i 2)]) (st := [.int (Int32.ofInt x)]) (n := 2) (sim_X14_weak hx) k_2035 k_2036 k_2037 k_147 k_2038 hdL_X14_weak rfl rfl rfl (mok_cons (sx_r) (mok_cons (sx_r) (fun _ y => by cases y))) rfl (Nat.le_of_ble_eq_true rfl) dL_law_560 hcs hss (fun y r' hy hok2 => ?_)
  obtain ⟨y, rfl, rfl, hR⟩ := hy
  refine l_eqI (x := Int32.ofInt x) C dL_law_563 rfl ?_
  exact k _ _ (hR)
theorem lc_rise (C : lC z aR oa b L xs p s m c) (hlo : lok z aR oa b i lo) (i0 : 0 ≤ i) (hi : i + 6 ≤ L) (hL : L ≤ 3072) (hcs : cells ≤ 601024) (hss : slots ≤ 7293033) (h : Rel q r) (k : ∀ q' r' : Mh, Rel q' r' → lG z aR oa b p l e s m below meth c Q cells slots 1503 lo [] q' r' ov) : lG z aR oa b p l e s m below meth c Q cells slots 568 lo [] q r ov := by
  refine l_x C hlo dL_law_568 ?_
  refine l_arg C hlo i0 (by decide) (by omega) hL dL_law_569 dL_law_570 dL_law_572 dL_law_573 dL_law_574 rfl rfl rfl rfl rfl ?_
  refine l_arg C hlo i0 (by decide) (by omega) hL dL_law_575 dL_law_576 dL_law_578 dL_law_579 dL_law_580 rfl rfl rfl rfl rfl ?_
  refine l_callC C (av := [(0, sx xs i 1), (0, sx xs i 2)]) (st := []) (n := 2) (sim_X13_rise (op_rise (sx xs i 1) (sx xs i 2) h)) k_1060 k_1061 k_1062 k_134 k_1063 hdL_X13_rise rfl rfl rfl (mok_cons (sx_r) (mok_cons (sx_r) (fun _ y => by cases y))) rfl (Nat.le_of_ble_eq_true rfl) dL_law_581 hcs hss (fun x q' hx hok => ?_)
  obtain ⟨x, rfl, hx⟩ := hx
  refine l_m C hlo dL_law_584 ?_
  refine l_arg C hlo i0 (by decide) (by omega) hL dL_law_585 dL_law_586 dL_law_588 dL_law_589 dL_law_590 rfl rfl rfl rfl rfl ?_
  refine l_arg C hlo i0 (by decide) (by omega) hL dL_law_591 dL_law_592 dL_law_594 dL_law_595 dL_law_596 rfl rfl rfl rfl rfl ?_
  refine l_callR C (av := [(0, sx xs i 1), (0, sx xs i 2)]) (st := [.int (Int32.ofInt x)]) (n := 2) (sim_X14_rise hx) k_2059 k_2060 k_2061 k_147 k_2062 hdL_X14_rise rfl rfl rfl (mok_cons (sx_r) (mok_cons (sx_r) (fun _ y => by cases y))) rfl (Nat.le_of_ble_eq_true rfl) dL_law_597 hcs hss (fun y r' hy hok2 => ?_)
  obtain ⟨y, rfl, rfl, hR⟩ := hy
  refine l_eqI (x := Int32.ofInt x) C dL_law_600 rfl ?_
  exact k _ _ (hR)
theorem lc_shows (C : lC z aR oa b L xs p s m c) (hlo : lok z aR oa b i lo) (i0 : 0 ≤ i) (hi : i + 6 ≤ L) (hL : L ≤ 3072) (hcs : cells ≤ 601024) (hss : slots ≤ 7293033) (h : Rel q r) (k : ∀ q' r' : Mh, Rel q' r' → lG z aR oa b p l e s m below meth c Q cells slots 1503 lo [] q' r' ov) : lG z aR oa b p l e s m below meth c Q cells slots 605 lo [] q r ov := by
  refine l_x C hlo dL_law_605 ?_
  refine l_arg C hlo i0 (by decide) (by omega) hL dL_law_606 dL_law_607 dL_law_609 dL_law_610 dL_law_611 rfl rfl rfl rfl rfl ?_
  refine l_arg C hlo i0 (by decide) (by omega) hL dL_law_612 dL_law_613 dL_law_615 dL_law_616 dL_law_617 rfl rfl rfl rfl rfl ?_
  refine l_callC C (av := [(0, sx xs i 1), (0, sx xs i 2)]) (st := []) (n := 2) (sim_X13_shows (op_shows (sx xs i 1) (sx xs i 2) h)) k_1109 k_1110 k_1111 k_134 k_1112 hdL_X13_shows rfl rfl rfl (mok_cons (sx_r) (mok_cons (sx_r) (fun _ y => by cases y))) rfl (Nat.le_of_ble_eq_true rfl) dL_law_618 hcs hss (fun x q' hx hok => ?_)
  obtain ⟨x, rfl, hx⟩ := hx
  refine l_m C hlo dL_law_621 ?_
  refine l_arg C hlo i0 (by decide) (by omega) hL dL_law_622 dL_law_623 dL_law_625 dL_law_626 dL_law_627 rfl rfl rfl rfl rfl ?_
  refine l_arg C hlo i0 (by decide) (by omega) hL dL_law_628 dL_law_629 dL_law_631 dL_law_632 dL_law_633 rfl rfl rfl rfl rfl ?_
  refine l_callR C (av := [(0, sx xs i 1), (0, sx xs i 2)]) (st := [.int (Int32.ofInt x)]) (n := 2) (sim_X14_shows hx) k_2083 k_2084 k_2085 k_147 k_2086 hdL_X14_shows rfl rfl rfl (mok_cons (sx_r) (mok_cons (sx_r) (fun _ y => by cases y))) rfl (Nat.le_of_ble_eq_true rfl) dL_law_634 hcs hss (fun y r' hy hok2 => ?_)
  obtain ⟨y, rfl, rfl, hR⟩ := hy
  refine l_eqI (x := Int32.ofInt x) C dL_law_637 rfl ?_
  exact k _ _ (hR)
theorem lc_most (C : lC z aR oa b L xs p s m c) (hlo : lok z aR oa b i lo) (i0 : 0 ≤ i) (hi : i + 6 ≤ L) (hL : L ≤ 3072) (hcs : cells ≤ 601024) (hss : slots ≤ 7293033) (h : Rel q r) (k : ∀ q' r' : Mh, Rel q' r' → lG z aR oa b p l e s m below meth c Q cells slots 1503 lo [] q' r' ov) : lG z aR oa b p l e s m below meth c Q cells slots 642 lo [] q r ov := by
  refine l_x C hlo dL_law_642 ?_
  refine l_arg C hlo i0 (by decide) (by omega) hL dL_law_643 dL_law_644 dL_law_646 dL_law_647 dL_law_648 rfl rfl rfl rfl rfl ?_
  refine l_arg C hlo i0 (by decide) (by omega) hL dL_law_649 dL_law_650 dL_law_652 dL_law_653 dL_law_654 rfl rfl rfl rfl rfl ?_
  refine l_callC C (av := [(0, sx xs i 1), (0, sx xs i 2)]) (st := []) (n := 2) (sim_X13_most (op_most (sx xs i 1) (sx xs i 2) h)) k_1119 k_1120 k_1121 k_134 k_1122 hdL_X13_most rfl rfl rfl (mok_cons (sx_r) (mok_cons (sx_r) (fun _ y => by cases y))) rfl (Nat.le_of_ble_eq_true rfl) dL_law_655 hcs hss (fun x q' hx hok => ?_)
  obtain ⟨x, rfl, hx⟩ := hx
  refine l_m C hlo dL_law_658 ?_
  refine l_arg C hlo i0 (by decide) (by omega) hL dL_law_659 dL_law_660 dL_law_662 dL_law_663 dL_law_664 rfl rfl rfl rfl rfl ?_
  refine l_arg C hlo i0 (by decide) (by omega) hL dL_law_665 dL_law_666 dL_law_668 dL_law_669 dL_law_670 rfl rfl rfl rfl rfl ?_
  refine l_callR C (av := [(0, sx xs i 1), (0, sx xs i 2)]) (st := [.int (Int32.ofInt x)]) (n := 2) (sim_X14_most hx) k_2091 k_2092 k_2093 k_147 k_2094 hdL_X14_most rfl rfl rfl (mok_cons (sx_r) (mok_cons (sx_r) (fun _ y => by cases y))) rfl (Nat.le_of_ble_eq_true rfl) dL_law_671 hcs hss (fun y r' hy hok2 => ?_)
  obtain ⟨y, rfl, rfl, hR⟩ := hy
  refine l_eqI (x := Int32.ofInt x) C dL_law_674 rfl ?_
  exact k _ _ (hR)
theorem lc_law (C : lC z aR oa b L xs p s m c) (hlo : lok z aR oa b i lo) (i0 : 0 ≤ i) (hi : i + 6 ≤ L) (hL : L ≤ 3072) (hcs : cells ≤ 601024) (hss : slots ≤ 7293033) (h : Rel q r) (k : ∀ q' r' : Mh, Rel q' r' → lG z aR oa b p l e s m below meth c Q cells slots 1503 lo [] q' r' ov) : lG z aR oa b p l e s m below meth c Q cells slots 679 lo [] q r ov := by
  refine l_x C hlo dL_law_679 ?_
  refine l_arg C hlo i0 (by decide) (by omega) hL dL_law_680 dL_law_681 dL_law_683 dL_law_684 dL_law_685 rfl rfl rfl rfl rfl ?_
  refine l_arg C hlo i0 (by decide) (by omega) hL dL_law_686 dL_law_687 dL_law_689 dL_law_690 dL_law_691 rfl rfl rfl rfl rfl ?_
  refine l_callC C (av := [(0, sx xs i 1), (0, sx xs i 2)]) (st := []) (n := 2) (sim_X13_law (op_law (sx xs i 1) (sx xs i 2) h)) k_1128 k_1129 k_1130 k_134 k_1131 hdL_X13_law rfl rfl rfl (mok_cons (sx_r) (mok_cons (sx_r) (fun _ y => by cases y))) rfl (Nat.le_of_ble_eq_true rfl) dL_law_692 hcs hss (fun x q' hx hok => ?_)
  obtain ⟨x, rfl, hx⟩ := hx
  refine l_m C hlo dL_law_695 ?_
  refine l_arg C hlo i0 (by decide) (by omega) hL dL_law_696 dL_law_697 dL_law_699 dL_law_700 dL_law_701 rfl rfl rfl rfl rfl ?_
  refine l_arg C hlo i0 (by decide) (by omega) hL dL_law_702 dL_law_703 dL_law_705 dL_law_706 dL_law_707 rfl rfl rfl rfl rfl ?_
  refine l_callR C (av := [(0, sx xs i 1), (0, sx xs i 2)]) (st := [.long (Int64.ofInt x)]) (n := 2) (sim_X14_law hx) k_2095 k_2096 k_2097 k_147 k_2098 hdL_X14_law rfl rfl rfl (mok_cons (sx_r) (mok_cons (sx_r) (fun _ y => by cases y))) rfl (Nat.le_of_ble_eq_true rfl) dL_law_708 hcs hss (fun y r' hy hok2 => ?_)
  obtain ⟨y, rfl, rfl, hR⟩ := hy
  refine l_eqL (x := Int64.ofInt x) C dL_law_711 dL_law_712 rfl ?_
  exact k _ _ (hR)
theorem lc_where (C : lC z aR oa b L xs p s m c) (hlo : lok z aR oa b i lo) (i0 : 0 ≤ i) (hi : i + 6 ≤ L) (hL : L ≤ 3072) (hcs : cells ≤ 601024) (hss : slots ≤ 7293033) (h : Rel q r) (k : ∀ q' r' : Mh, Rel q' r' → lG z aR oa b p l e s m below meth c Q cells slots 1503 lo [] q' r' ov) : lG z aR oa b p l e s m below meth c Q cells slots 717 lo [] q r ov := by
  refine l_x C hlo dL_law_717 ?_
  refine l_arg C hlo i0 (by decide) (by omega) hL dL_law_718 dL_law_719 dL_law_721 dL_law_722 dL_law_723 rfl rfl rfl rfl rfl ?_
  refine l_arg C hlo i0 (by decide) (by omega) hL dL_law_724 dL_law_725 dL_law_727 dL_law_728 dL_law_729 rfl rfl rfl rfl rfl ?_
  refine l_callC C (av := [(0, sx xs i 1), (0, sx xs i 2)]) (st := []) (n := 2) (sim_X13_where (op_where (sx xs i 1) (sx xs i 2) h)) k_1156 k_1157 k_1158 k_134 k_1159 hdL_X13_where rfl rfl rfl (mok_cons (sx_r) (mok_cons (sx_r) (fun _ y => by cases y))) rfl (Nat.le_of_ble_eq_true rfl) dL_law_730 hcs hss (fun x q' hx hok => ?_)
  obtain ⟨x, rfl, hx⟩ := hx
  refine l_m C hlo dL_law_733 ?_
  refine l_arg C hlo i0 (by decide) (by omega) hL dL_law_734 dL_law_735 dL_law_737 dL_law_738 dL_law_739 rfl rfl rfl rfl rfl ?_
  refine l_arg C hlo i0 (by decide) (by omega) hL dL_law_740 dL_law_741 dL_law_743 dL_law_744 dL_law_745 rfl rfl rfl rfl rfl ?_
  refine l_callR C (av := [(0, sx xs i 1), (0, sx xs i 2)]) (st := [.int (Int32.ofInt x)]) (n := 2) (sim_X14_where hx) k_2125 k_2126 k_2127 k_147 k_2128 hdL_X14_where rfl rfl rfl (mok_cons (sx_r) (mok_cons (sx_r) (fun _ y => by cases y))) rfl (Nat.le_of_ble_eq_true rfl) dL_law_746 hcs hss (fun y r' hy hok2 => ?_)
  obtain ⟨y, rfl, rfl, hR⟩ := hy
  refine l_eqI (x := Int32.ofInt x) C dL_law_749 rfl ?_
  exact k _ _ (hR)
theorem lc_reaches (C : lC z aR oa b L xs p s m c) (hlo : lok z aR oa b i lo) (i0 : 0 ≤ i) (hi : i + 6 ≤ L) (hL : L ≤ 3072) (hcs : cells ≤ 601024) (hss : slots ≤ 7293033) (h : Rel q r) (k : ∀ q' r' : Mh, Rel q' r' → lG z aR oa b p l e s m below meth c Q cells slots 1503 lo [] q' r' ov) : lG z aR oa b p l e s m below meth c Q cells slots 754 lo [] q r ov := by
  refine l_x C hlo dL_law_754 ?_
  refine l_arg C hlo i0 (by decide) (by omega) hL dL_law_755 dL_law_756 dL_law_758 dL_law_759 dL_law_760 rfl rfl rfl rfl rfl ?_
  refine l_arg C hlo i0 (by decide) (by omega) hL dL_law_761 dL_law_762 dL_law_764 dL_law_765 dL_law_766 rfl rfl rfl rfl rfl ?_
  refine l_callC C (av := [(0, sx xs i 1), (0, sx xs i 2)]) (st := []) (n := 2) (sim_X13_reaches (op_reaches (sx xs i 1) (sx xs i 2) h)) k_1174 k_1175 k_1176 k_134 k_1177 hdL_X13_reaches rfl rfl rfl (mok_cons (sx_r) (mok_cons (sx_r) (fun _ y => by cases y))) rfl (Nat.le_of_ble_eq_true rfl) dL_law_767 hcs hss (fun x q' hx hok => ?_)
  obtain ⟨x, rfl, hx⟩ := hx
  refine l_m C hlo dL_law_770 ?_
  refine l_arg C hlo i0 (by decide) (by omega) hL dL_law_771 dL_law_772 dL_law_774 dL_law_775 dL_law_776 rfl rfl rfl rfl rfl ?_
  refine l_arg C hlo i0 (by decide) (by omega) hL dL_law_777 dL_law_778 dL_law_780 dL_law_781 dL_law_782 rfl rfl rfl rfl rfl ?_
  refine l_callR C (av := [(0, sx xs i 1), (0, sx xs i 2)]) (st := [.int (Int32.ofInt x)]) (n := 2) (sim_X14_reaches hx) k_2133 k_2134 k_2135 k_147 k_2136 hdL_X14_reaches rfl rfl rfl (mok_cons (sx_r) (mok_cons (sx_r) (fun _ y => by cases y))) rfl (Nat.le_of_ble_eq_true rfl) dL_law_783 hcs hss (fun y r' hy hok2 => ?_)
  obtain ⟨y, rfl, rfl, hR⟩ := hy
  refine l_eqI (x := Int32.ofInt x) C dL_law_786 rfl ?_
  exact k _ _ (hR)
theorem lc_first (C : lC z aR oa b L xs p s m c) (hlo : lok z aR oa b i lo) (i0 : 0 ≤ i) (hi : i + 6 ≤ L) (hL : L ≤ 3072) (hcs : cells ≤ 601024) (hss : slots ≤ 7293033) (h : Rel q r) (k : ∀ q' r' : Mh, Rel q' r' → lG z aR oa b p l e s m below meth c Q cells slots 1503 lo [] q' r' ov) : lG z aR oa b p l e s m below meth c Q cells slots 791 lo [] q r ov := by
  refine l_x C hlo dL_law_791 ?_
  refine l_arg C hlo i0 (by decide) (by omega) hL dL_law_792 dL_law_793 dL_law_795 dL_law_796 dL_law_797 rfl rfl rfl rfl rfl ?_
  refine l_callC C (av := [(0, sx xs i 1)]) (st := []) (n := 1) (sim_X13_first (op_first (sx xs i 1) h)) k_1186 k_1187 k_1188 k_134 k_1189 hdL_X13_first rfl rfl rfl (mok_cons (sx_r) (fun _ y => by cases y)) rfl (Nat.le_of_ble_eq_true rfl) dL_law_798 hcs hss (fun x q' hx hok => ?_)
  obtain ⟨x, rfl, hx⟩ := hx
  refine l_m C hlo dL_law_801 ?_
  refine l_arg C hlo i0 (by decide) (by omega) hL dL_law_802 dL_law_803 dL_law_805 dL_law_806 dL_law_807 rfl rfl rfl rfl rfl ?_
  refine l_callR C (av := [(0, sx xs i 1)]) (st := [.int (Int32.ofInt x)]) (n := 1) (sim_X14_first hx) k_2141 k_2142 k_2143 k_147 k_2144 hdL_X14_first rfl rfl rfl (mok_cons (sx_r) (fun _ y => by cases y)) rfl (Nat.le_of_ble_eq_true rfl) dL_law_808 hcs hss (fun y r' hy hok2 => ?_)
  obtain ⟨y, rfl, rfl, hR⟩ := hy
  refine l_eqI (x := Int32.ofInt x) C dL_law_811 rfl ?_
  exact k _ _ (hR)
theorem lc_lie (C : lC z aR oa b L xs p s m c) (hlo : lok z aR oa b i lo) (i0 : 0 ≤ i) (hi : i + 6 ≤ L) (hL : L ≤ 3072) (hcs : cells ≤ 601024) (hss : slots ≤ 7293033) (h : Rel q r) (k : ∀ q' r' : Mh, Rel q' r' → lG z aR oa b p l e s m below meth c Q cells slots 1503 lo [] q' r' ov) : lG z aR oa b p l e s m below meth c Q cells slots 816 lo [] q r ov := by
  refine l_x C hlo dL_law_816 ?_
  refine l_arg C hlo i0 (by decide) (by omega) hL dL_law_817 dL_law_818 dL_law_820 dL_law_821 dL_law_822 rfl rfl rfl rfl rfl ?_
  refine l_arg C hlo i0 (by decide) (by omega) hL dL_law_823 dL_law_824 dL_law_826 dL_law_827 dL_law_828 rfl rfl rfl rfl rfl ?_
  refine l_arg C hlo i0 (by decide) (by omega) hL dL_law_829 dL_law_830 dL_law_832 dL_law_833 dL_law_834 rfl rfl rfl rfl rfl ?_
  refine l_arg C hlo i0 (by decide) (by omega) hL dL_law_835 dL_law_836 dL_law_838 dL_law_839 dL_law_840 rfl rfl rfl rfl rfl ?_
  refine l_arg C hlo i0 (by decide) (by omega) hL dL_law_841 dL_law_842 dL_law_844 dL_law_845 dL_law_846 rfl rfl rfl rfl rfl ?_
  refine l_callC C (av := [(0, sx xs i 1), (0, sx xs i 2), (0, sx xs i 3), (0, sx xs i 4), (0, sx xs i 5)]) (st := []) (n := 5) (sim_X13_lie (op_lie (sx xs i 1) (sx xs i 2) (sx xs i 3) (sx xs i 4) (sx xs i 5) h)) k_1194 k_1195 k_1196 k_134 k_1197 hdL_X13_lie rfl rfl rfl (mok_cons (sx_r) (mok_cons (sx_r) (mok_cons (sx_r) (mok_cons (sx_r) (mok_cons (sx_r) (fun _ y => by cases y)))))) rfl (Nat.le_of_ble_eq_true rfl) dL_law_847 hcs hss (fun x q' hx hok => ?_)
  obtain ⟨x, rfl, hx⟩ := hx
  refine l_m C hlo dL_law_850 ?_
  refine l_arg C hlo i0 (by decide) (by omega) hL dL_law_851 dL_law_852 dL_law_854 dL_law_855 dL_law_856 rfl rfl rfl rfl rfl ?_
  refine l_arg C hlo i0 (by decide) (by omega) hL dL_law_857 dL_law_858 dL_law_860 dL_law_861 dL_law_862 rfl rfl rfl rfl rfl ?_
  refine l_arg C hlo i0 (by decide) (by omega) hL dL_law_863 dL_law_864 dL_law_866 dL_law_867 dL_law_868 rfl rfl rfl rfl rfl ?_
  refine l_arg C hlo i0 (by decide) (by omega) hL dL_law_869 dL_law_870 dL_law_872 dL_law_873 dL_law_874 rfl rfl rfl rfl rfl ?_
  refine l_arg C hlo i0 (by decide) (by omega) hL dL_law_875 dL_law_876 dL_law_878 dL_law_879 dL_law_880 rfl rfl rfl rfl rfl ?_
  refine l_callR C (av := [(0, sx xs i 1), (0, sx xs i 2), (0, sx xs i 3), (0, sx xs i 4), (0, sx xs i 5)]) (st := [.int (Int32.ofInt x)]) (n := 5) (sim_X14_lie hx) k_2145 k_2146 k_2147 k_147 k_2148 hdL_X14_lie rfl rfl rfl (mok_cons (sx_r) (mok_cons (sx_r) (mok_cons (sx_r) (mok_cons (sx_r) (mok_cons (sx_r) (fun _ y => by cases y)))))) rfl (Nat.le_of_ble_eq_true rfl) dL_law_881 hcs hss (fun y r' hy hok2 => ?_)
  obtain ⟨y, rfl, rfl, hR⟩ := hy
  refine l_eqI (x := Int32.ofInt x) C dL_law_884 rfl ?_
  exact k _ _ (hR)
theorem lc_fall (C : lC z aR oa b L xs p s m c) (hlo : lok z aR oa b i lo) (i0 : 0 ≤ i) (hi : i + 6 ≤ L) (hL : L ≤ 3072) (hcs : cells ≤ 601024) (hss : slots ≤ 7293033) (h : Rel q r) (k : ∀ q' r' : Mh, Rel q' r' → lG z aR oa b p l e s m below meth c Q cells slots 1503 lo [] q' r' ov) : lG z aR oa b p l e s m below meth c Q cells slots 889 lo [] q r ov := by
  refine l_x C hlo dL_law_889 ?_
  refine l_arg C hlo i0 (by decide) (by omega) hL dL_law_890 dL_law_891 dL_law_893 dL_law_894 dL_law_895 rfl rfl rfl rfl rfl ?_
  refine l_arg C hlo i0 (by decide) (by omega) hL dL_law_896 dL_law_897 dL_law_899 dL_law_900 dL_law_901 rfl rfl rfl rfl rfl ?_
  refine l_arg C hlo i0 (by decide) (by omega) hL dL_law_902 dL_law_903 dL_law_905 dL_law_906 dL_law_907 rfl rfl rfl rfl rfl ?_
  refine l_callC C (av := [(0, sx xs i 1), (0, sx xs i 2), (0, sx xs i 3)]) (st := []) (n := 3) (sim_X13_fall (op_fall (sx xs i 1) (sx xs i 2) (sx xs i 3) h)) k_1213 k_1214 k_1215 k_134 k_1216 hdL_X13_fall rfl rfl rfl (mok_cons (sx_r) (mok_cons (sx_r) (mok_cons (sx_r) (fun _ y => by cases y)))) rfl (Nat.le_of_ble_eq_true rfl) dL_law_908 hcs hss (fun x q' hx hok => ?_)
  obtain ⟨x, rfl, hx⟩ := hx
  refine l_m C hlo dL_law_911 ?_
  refine l_arg C hlo i0 (by decide) (by omega) hL dL_law_912 dL_law_913 dL_law_915 dL_law_916 dL_law_917 rfl rfl rfl rfl rfl ?_
  refine l_arg C hlo i0 (by decide) (by omega) hL dL_law_918 dL_law_919 dL_law_921 dL_law_922 dL_law_923 rfl rfl rfl rfl rfl ?_
  refine l_arg C hlo i0 (by decide) (by omega) hL dL_law_924 dL_law_925 dL_law_927 dL_law_928 dL_law_929 rfl rfl rfl rfl rfl ?_
  refine l_callR C (av := [(0, sx xs i 1), (0, sx xs i 2), (0, sx xs i 3)]) (st := [.int (Int32.ofInt x)]) (n := 3) (sim_X14_fall hx) k_2149 k_2150 k_2151 k_147 k_2152 hdL_X14_fall rfl rfl rfl (mok_cons (sx_r) (mok_cons (sx_r) (mok_cons (sx_r) (fun _ y => by cases y)))) rfl (Nat.le_of_ble_eq_true rfl) dL_law_930 hcs hss (fun y r' hy hok2 => ?_)
  obtain ⟨y, rfl, rfl, hR⟩ := hy
  refine l_eqI (x := Int32.ofInt x) C dL_law_933 rfl ?_
  exact k _ _ (hR)
theorem lc_cut (C : lC z aR oa b L xs p s m c) (hlo : lok z aR oa b i lo) (i0 : 0 ≤ i) (hi : i + 6 ≤ L) (hL : L ≤ 3072) (hcs : cells ≤ 601024) (hss : slots ≤ 7293033) (h : Rel q r) (k : ∀ q' r' : Mh, Rel q' r' → lG z aR oa b p l e s m below meth c Q cells slots 1503 lo [] q' r' ov) : lG z aR oa b p l e s m below meth c Q cells slots 938 lo [] q r ov := by
  refine l_x C hlo dL_law_938 ?_
  refine l_arg C hlo i0 (by decide) (by omega) hL dL_law_939 dL_law_940 dL_law_942 dL_law_943 dL_law_944 rfl rfl rfl rfl rfl ?_
  refine l_callC C (av := [(0, sx xs i 1)]) (st := []) (n := 1) (sim_X13_cut (op_cut (sx xs i 1) h)) k_1227 k_1228 k_1229 k_134 k_1230 hdL_X13_cut rfl rfl rfl (mok_cons (sx_r) (fun _ y => by cases y)) rfl (Nat.le_of_ble_eq_true rfl) dL_law_945 hcs hss (fun x q' hx hok => ?_)
  obtain ⟨x, rfl, hz, hx⟩ := hx
  refine l_m C hlo dL_law_948 ?_
  refine l_arg C hlo i0 (by decide) (by omega) hL dL_law_949 dL_law_950 dL_law_952 dL_law_953 dL_law_954 rfl rfl rfl rfl rfl ?_
  refine l_callR C (av := [(0, sx xs i 1)]) (st := [.int (Int32.ofInt x)]) (n := 1) (sim_X14_cut hx) k_2157 k_2158 k_2159 k_147 k_2160 hdL_X14_cut rfl rfl rfl (mok_cons (sx_r) (fun _ y => by cases y)) rfl (Nat.le_of_ble_eq_true rfl) dL_law_955 hcs hss (fun y r' hy hok2 => ?_)
  obtain ⟨y, rfl, _, rfl, hR⟩ := hy
  refine l_eqI (x := Int32.ofInt x) C dL_law_958 rfl ?_
  exact k _ _ (hR)
theorem lc_undo (C : lC z aR oa b L xs p s m c) (hlo : lok z aR oa b i lo) (i0 : 0 ≤ i) (hi : i + 6 ≤ L) (hL : L ≤ 3072) (hcs : cells ≤ 601024) (hss : slots ≤ 7293033) (h : Rel q r) (k : ∀ q' r' : Mh, Rel q' r' → lG z aR oa b p l e s m below meth c Q cells slots 1503 lo [] q' r' ov) : lG z aR oa b p l e s m below meth c Q cells slots 963 lo [] q r ov := by
  refine l_x C hlo dL_law_963 ?_
  refine l_callC C (av := []) (st := []) (n := 0) (sim_X13_undo (op_undo h)) k_1240 k_1241 k_1242 k_134 k_1243 hdL_X13_undo rfl rfl rfl (fun _ y => by cases y) rfl (Nat.le_of_ble_eq_true rfl) dL_law_964 hcs hss (fun x q' hx hok => ?_)
  obtain ⟨x, rfl, hx⟩ := hx
  refine l_m C hlo dL_law_967 ?_
  refine l_callR C (av := []) (st := [.int (Int32.ofInt x)]) (n := 0) (sim_X14_undo hx) k_2161 k_2162 k_2163 k_147 k_2164 hdL_X14_undo rfl rfl rfl (fun _ y => by cases y) rfl (Nat.le_of_ble_eq_true rfl) dL_law_968 hcs hss (fun y r' hy hok2 => ?_)
  obtain ⟨y, rfl, rfl, hR⟩ := hy
  refine l_eqI (x := Int32.ofInt x) C dL_law_971 rfl ?_
  exact k _ _ (hR)
theorem lc_note (C : lC z aR oa b L xs p s m c) (hlo : lok z aR oa b i lo) (i0 : 0 ≤ i) (hi : i + 6 ≤ L) (hL : L ≤ 3072) (hcs : cells ≤ 601024) (hss : slots ≤ 7293033) (h : Rel q r) (k : ∀ q' r' : Mh, Rel q' r' → lG z aR oa b p l e s m below meth c Q cells slots 1503 lo [] q' r' ov) : lG z aR oa b p l e s m below meth c Q cells slots 976 lo [] q r ov := by
  refine l_x C hlo dL_law_976 ?_
  refine l_arg C hlo i0 (by decide) (by omega) hL dL_law_977 dL_law_978 dL_law_980 dL_law_981 dL_law_982 rfl rfl rfl rfl rfl ?_
  refine l_arg C hlo i0 (by decide) (by omega) hL dL_law_983 dL_law_984 dL_law_986 dL_law_987 dL_law_988 rfl rfl rfl rfl rfl ?_
  refine l_arg C hlo i0 (by decide) (by omega) hL dL_law_989 dL_law_990 dL_law_992 dL_law_993 dL_law_994 rfl rfl rfl rfl rfl ?_
  refine l_callC C (av := [(0, sx xs i 1), (0, sx xs i 2), (0, sx xs i 3)]) (st := []) (n := 3) (sim_X13_note (op_note (sx xs i 1) (sx xs i 2) (sx xs i 3) h.1.2.2.2.2.2.2.2.1 h.1.2.2.1.1.1 h.1.2.2.1.2.2.2.1.1.1)) k_1252 k_1253 k_1254 k_134 k_1255 hdL_X13_note rfl rfl rfl (mok_cons (sx_r) (mok_cons (sx_r) (mok_cons (sx_r) (fun _ y => by cases y)))) rfl (Nat.le_of_ble_eq_true rfl) dL_law_995 hcs hss (fun x q' hx hok => ?_)
  obtain ⟨x, rfl, hx⟩ := hx
  refine l_m C hlo dL_law_998 ?_
  refine l_arg C hlo i0 (by decide) (by omega) hL dL_law_999 dL_law_1000 dL_law_1002 dL_law_1003 dL_law_1004 rfl rfl rfl rfl rfl ?_
  refine l_arg C hlo i0 (by decide) (by omega) hL dL_law_1005 dL_law_1006 dL_law_1008 dL_law_1009 dL_law_1010 rfl rfl rfl rfl rfl ?_
  refine l_arg C hlo i0 (by decide) (by omega) hL dL_law_1011 dL_law_1012 dL_law_1014 dL_law_1015 dL_law_1016 rfl rfl rfl rfl rfl ?_
  refine l_callR C (av := [(0, sx xs i 1), (0, sx xs i 2), (0, sx xs i 3)]) (st := [.int (Int32.ofInt x)]) (n := 3) (sim_X14_note hx) k_2165 k_2166 k_2167 k_147 k_2168 hdL_X14_note rfl rfl rfl (mok_cons (sx_r) (mok_cons (sx_r) (mok_cons (sx_r) (fun _ y => by cases y)))) rfl (Nat.le_of_ble_eq_true rfl) dL_law_1017 hcs hss (fun y r' hy hok2 => ?_)
  obtain ⟨y, rfl, rfl, hN, f⟩ := hy
  refine l_eqI (x := Int32.ofInt x) C dL_law_1020 rfl ?_
  exact k _ _ (post_note h hN f)
theorem lc_strike (C : lC z aR oa b L xs p s m c) (hlo : lok z aR oa b i lo) (i0 : 0 ≤ i) (hi : i + 6 ≤ L) (hL : L ≤ 3072) (hcs : cells ≤ 601024) (hss : slots ≤ 7293033) (h : Rel q r) (k : ∀ q' r' : Mh, Rel q' r' → lG z aR oa b p l e s m below meth c Q cells slots 1503 lo [] q' r' ov) : lG z aR oa b p l e s m below meth c Q cells slots 1025 lo [] q r ov := by
  refine l_x C hlo dL_law_1025 ?_
  refine l_arg C hlo i0 (by decide) (by omega) hL dL_law_1026 dL_law_1027 dL_law_1029 dL_law_1030 dL_law_1031 rfl rfl rfl rfl rfl ?_
  refine l_callC C (av := [(0, sx xs i 1)]) (st := []) (n := 1) (sim_X13_strike (op_strike (sx xs i 1) h.1.2.2.2.2.2.2.2.1)) k_1260 k_1261 k_1262 k_134 k_1263 hdL_X13_strike rfl rfl rfl (mok_cons (sx_r) (fun _ y => by cases y)) rfl (Nat.le_of_ble_eq_true rfl) dL_law_1032 hcs hss (fun x q' hx hok => ?_)
  obtain ⟨x, rfl, hx⟩ := hx
  refine l_m C hlo dL_law_1035 ?_
  refine l_arg C hlo i0 (by decide) (by omega) hL dL_law_1036 dL_law_1037 dL_law_1039 dL_law_1040 dL_law_1041 rfl rfl rfl rfl rfl ?_
  refine l_callR C (av := [(0, sx xs i 1)]) (st := [.int (Int32.ofInt x)]) (n := 1) (sim_X14_strike hx) k_2173 k_2174 k_2175 k_147 k_2176 hdL_X14_strike rfl rfl rfl (mok_cons (sx_r) (fun _ y => by cases y)) rfl (Nat.le_of_ble_eq_true rfl) dL_law_1042 hcs hss (fun y r' hy hok2 => ?_)
  obtain ⟨y, rfl, rfl, hN, f⟩ := hy
  refine l_eqI (x := Int32.ofInt x) C dL_law_1045 rfl ?_
  exact k _ _ (post_note h hN f)
theorem lc_known (C : lC z aR oa b L xs p s m c) (hlo : lok z aR oa b i lo) (i0 : 0 ≤ i) (hi : i + 6 ≤ L) (hL : L ≤ 3072) (hcs : cells ≤ 601024) (hss : slots ≤ 7293033) (h : Rel q r) (k : ∀ q' r' : Mh, Rel q' r' → lG z aR oa b p l e s m below meth c Q cells slots 1503 lo [] q' r' ov) : lG z aR oa b p l e s m below meth c Q cells slots 1050 lo [] q r ov := by
  refine l_x C hlo dL_law_1050 ?_
  refine l_arg C hlo i0 (by decide) (by omega) hL dL_law_1051 dL_law_1052 dL_law_1054 dL_law_1055 dL_law_1056 rfl rfl rfl rfl rfl ?_
  refine l_callC C (av := [(0, sx xs i 1)]) (st := []) (n := 1) (sim_X13_known (op_known (sx xs i 1) h.1.2.2.2.2.2.2.2.1)) k_1268 k_1269 k_1270 k_134 k_1271 hdL_X13_known rfl rfl rfl (mok_cons (sx_r) (fun _ y => by cases y)) rfl (Nat.le_of_ble_eq_true rfl) dL_law_1057 hcs hss (fun x q' hx hok => ?_)
  obtain ⟨x, rfl, hz, hx⟩ := hx
  refine l_m C hlo dL_law_1060 ?_
  refine l_arg C hlo i0 (by decide) (by omega) hL dL_law_1061 dL_law_1062 dL_law_1064 dL_law_1065 dL_law_1066 rfl rfl rfl rfl rfl ?_
  refine l_callR C (av := [(0, sx xs i 1)]) (st := [.int (Int32.ofInt x)]) (n := 1) (sim_X14_known hx) k_2177 k_2178 k_2179 k_147 k_2180 hdL_X14_known rfl rfl rfl (mok_cons (sx_r) (fun _ y => by cases y)) rfl (Nat.le_of_ble_eq_true rfl) dL_law_1067 hcs hss (fun y r' hy hok2 => ?_)
  obtain ⟨y, rfl, _, rfl, hN, f1, f2⟩ := hy
  refine l_eqI (x := Int32.ofInt x) C dL_law_1070 rfl ?_
  exact k _ _ (post_known h hN f1 f2)
theorem lc_tales (C : lC z aR oa b L xs p s m c) (hlo : lok z aR oa b i lo) (i0 : 0 ≤ i) (hi : i + 6 ≤ L) (hL : L ≤ 3072) (hcs : cells ≤ 601024) (hss : slots ≤ 7293033) (h : Rel q r) (k : ∀ q' r' : Mh, Rel q' r' → lG z aR oa b p l e s m below meth c Q cells slots 1503 lo [] q' r' ov) : lG z aR oa b p l e s m below meth c Q cells slots 1075 lo [] q r ov := by
  refine l_x C hlo dL_law_1075 ?_
  refine l_callC C (av := []) (st := []) (n := 0) (sim_X13_tales (op_tales h)) k_1276 k_1277 k_1278 k_134 k_1279 hdL_X13_tales rfl rfl rfl (fun _ y => by cases y) rfl (Nat.le_of_ble_eq_true rfl) dL_law_1076 hcs hss (fun x q' hx hok => ?_)
  obtain ⟨x, rfl, hx⟩ := hx
  refine l_m C hlo dL_law_1079 ?_
  refine l_callR C (av := []) (st := [.int (Int32.ofInt x)]) (n := 0) (sim_X14_tales hx) k_2181 k_2182 k_2183 k_147 k_2184 hdL_X14_tales rfl rfl rfl (fun _ y => by cases y) rfl (Nat.le_of_ble_eq_true rfl) dL_law_1080 hcs hss (fun y r' hy hok2 => ?_)
  obtain ⟨y, rfl, rfl, hR⟩ := hy
  refine l_eqI (x := Int32.ofInt x) C dL_law_1083 rfl ?_
  exact k _ _ (hR)
theorem lc_tale (C : lC z aR oa b L xs p s m c) (hlo : lok z aR oa b i lo) (i0 : 0 ≤ i) (hi : i + 6 ≤ L) (hL : L ≤ 3072) (hcs : cells ≤ 601024) (hss : slots ≤ 7293033) (h : Rel q r) (k : ∀ q' r' : Mh, Rel q' r' → lG z aR oa b p l e s m below meth c Q cells slots 1503 lo [] q' r' ov) : lG z aR oa b p l e s m below meth c Q cells slots 1088 lo [] q r ov := by
  refine l_x C hlo dL_law_1088 ?_
  refine l_arg C hlo i0 (by decide) (by omega) hL dL_law_1089 dL_law_1090 dL_law_1092 dL_law_1093 dL_law_1094 rfl rfl rfl rfl rfl ?_
  refine l_arg C hlo i0 (by decide) (by omega) hL dL_law_1095 dL_law_1096 dL_law_1098 dL_law_1099 dL_law_1100 rfl rfl rfl rfl rfl ?_
  refine l_callC C (av := [(0, sx xs i 1), (0, sx xs i 2)]) (st := []) (n := 2) (sim_X13_tale (op_tale (sx xs i 1) (sx xs i 2) h)) k_1318 k_1319 k_1320 k_134 k_1321 hdL_X13_tale rfl rfl rfl (mok_cons (sx_r) (mok_cons (sx_r) (fun _ y => by cases y))) rfl (Nat.le_of_ble_eq_true rfl) dL_law_1101 hcs hss (fun x q' hx hok => ?_)
  obtain ⟨x, rfl, hx⟩ := hx
  refine l_m C hlo dL_law_1104 ?_
  refine l_arg C hlo i0 (by decide) (by omega) hL dL_law_1105 dL_law_1106 dL_law_1108 dL_law_1109 dL_law_1110 rfl rfl rfl rfl rfl ?_
  refine l_arg C hlo i0 (by decide) (by omega) hL dL_law_1111 dL_law_1112 dL_law_1114 dL_law_1115 dL_law_1116 rfl rfl rfl rfl rfl ?_
  refine l_callR C (av := [(0, sx xs i 1), (0, sx xs i 2)]) (st := [.int (Int32.ofInt x)]) (n := 2) (sim_X14_tale hx) k_2201 k_2202 k_2203 k_147 k_2204 hdL_X14_tale rfl rfl rfl (mok_cons (sx_r) (mok_cons (sx_r) (fun _ y => by cases y))) rfl (Nat.le_of_ble_eq_true rfl) dL_law_1117 hcs hss (fun y r' hy hok2 => ?_)
  obtain ⟨y, rfl, rfl, hR⟩ := hy
  refine l_eqI (x := Int32.ofInt x) C dL_law_1120 rfl ?_
  exact k _ _ (hR)
theorem lc_likeliest (C : lC z aR oa b L xs p s m c) (hlo : lok z aR oa b i lo) (i0 : 0 ≤ i) (hi : i + 6 ≤ L) (hL : L ≤ 3072) (hcs : cells ≤ 601024) (hss : slots ≤ 7293033) (h : Rel q r) (k : ∀ q' r' : Mh, Rel q' r' → lG z aR oa b p l e s m below meth c Q cells slots 1503 lo [] q' r' ov) : lG z aR oa b p l e s m below meth c Q cells slots 1125 lo [] q r ov := by
  refine l_x C hlo dL_law_1125 ?_
  refine l_arg C hlo i0 (by decide) (by omega) hL dL_law_1126 dL_law_1127 dL_law_1129 dL_law_1130 dL_law_1131 rfl rfl rfl rfl rfl ?_
  refine l_callC C (av := [(0, sx xs i 1)]) (st := []) (n := 1) (sim_X13_likeliest (op_likeliest (sx xs i 1) h)) k_1322 k_1323 k_1324 k_134 k_1325 hdL_X13_likeliest rfl rfl rfl (mok_cons (sx_r) (fun _ y => by cases y)) rfl (Nat.le_of_ble_eq_true rfl) dL_law_1132 hcs hss (fun x q' hx hok => ?_)
  obtain ⟨x, rfl, hx⟩ := hx
  refine l_m C hlo dL_law_1135 ?_
  refine l_arg C hlo i0 (by decide) (by omega) hL dL_law_1136 dL_law_1137 dL_law_1139 dL_law_1140 dL_law_1141 rfl rfl rfl rfl rfl ?_
  refine l_callR C (av := [(0, sx xs i 1)]) (st := [.int (Int32.ofInt x)]) (n := 1) (sim_X14_likeliest hx) k_2208 k_2209 k_2210 k_147 k_2211 hdL_X14_likeliest rfl rfl rfl (mok_cons (sx_r) (fun _ y => by cases y)) rfl (Nat.le_of_ble_eq_true rfl) dL_law_1142 hcs hss (fun y r' hy hok2 => ?_)
  obtain ⟨y, rfl, rfl, hR⟩ := hy
  refine l_eqI (x := Int32.ofInt x) C dL_law_1145 rfl ?_
  exact k _ _ (hR)
theorem lc_fits (C : lC z aR oa b L xs p s m c) (hlo : lok z aR oa b i lo) (i0 : 0 ≤ i) (hi : i + 6 ≤ L) (hL : L ≤ 3072) (hcs : cells ≤ 601024) (hss : slots ≤ 7293033) (h : Rel q r) (k : ∀ q' r' : Mh, Rel q' r' → lG z aR oa b p l e s m below meth c Q cells slots 1503 lo [] q' r' ov) : lG z aR oa b p l e s m below meth c Q cells slots 1150 lo [] q r ov := by
  refine l_x C hlo dL_law_1150 ?_
  refine l_callC C (av := []) (st := []) (n := 0) (sim_X13_fits (op_fits h)) k_1326 k_1327 k_1328 k_134 k_1329 hdL_X13_fits rfl rfl rfl (fun _ y => by cases y) rfl (Nat.le_of_ble_eq_true rfl) dL_law_1151 hcs hss (fun x q' hx hok => ?_)
  obtain ⟨x, rfl, hx⟩ := hx
  refine l_m C hlo dL_law_1154 ?_
  refine l_callR C (av := []) (st := [.int (Int32.ofInt x)]) (n := 0) (sim_X14_fits hx) k_2212 k_2213 k_2214 k_147 k_2215 hdL_X14_fits rfl rfl rfl (fun _ y => by cases y) rfl (Nat.le_of_ble_eq_true rfl) dL_law_1155 hcs hss (fun y r' hy hok2 => ?_)
  obtain ⟨y, rfl, rfl, hR⟩ := hy
  refine l_eqI (x := Int32.ofInt x) C dL_law_1158 rfl ?_
  exact k _ _ (hR)
theorem lc_looks (C : lC z aR oa b L xs p s m c) (hlo : lok z aR oa b i lo) (i0 : 0 ≤ i) (hi : i + 6 ≤ L) (hL : L ≤ 3072) (hcs : cells ≤ 601024) (hss : slots ≤ 7293033) (h : Rel q r) (k : ∀ q' r' : Mh, Rel q' r' → lG z aR oa b p l e s m below meth c Q cells slots 1503 lo [] q' r' ov) : lG z aR oa b p l e s m below meth c Q cells slots 1244 lo [] q r ov := by
  refine l_x C hlo dL_law_1244 ?_
  refine l_arg C hlo i0 (by decide) (by omega) hL dL_law_1245 dL_law_1246 dL_law_1248 dL_law_1249 dL_law_1250 rfl rfl rfl rfl rfl ?_
  refine l_arg C hlo i0 (by decide) (by omega) hL dL_law_1251 dL_law_1252 dL_law_1254 dL_law_1255 dL_law_1256 rfl rfl rfl rfl rfl ?_
  refine l_arg C hlo i0 (by decide) (by omega) hL dL_law_1257 dL_law_1258 dL_law_1260 dL_law_1261 dL_law_1262 rfl rfl rfl rfl rfl ?_
  refine l_arg C hlo i0 (by decide) (by omega) hL dL_law_1263 dL_law_1264 dL_law_1266 dL_law_1267 dL_law_1268 rfl rfl rfl rfl rfl ?_
  refine l_callC C (av := [(0, sx xs i 1), (0, sx xs i 2), (0, sx xs i 3), (0, sx xs i 4)]) (st := []) (n := 4) (sim_X13_looks (op_looks (sx xs i 1) (sx xs i 2) (sx xs i 3) (sx xs i 4) h)) k_1382 k_1383 k_1384 k_134 k_1385 hdL_X13_looks rfl rfl rfl (mok_cons (sx_r) (mok_cons (sx_r) (mok_cons (sx_r) (mok_cons (sx_r) (fun _ y => by cases y))))) rfl (Nat.le_of_ble_eq_true rfl) dL_law_1269 hcs hss (fun x q' hx hok => ?_)
  obtain ⟨x, rfl, hx⟩ := hx
  refine l_m C hlo dL_law_1272 ?_
  refine l_arg C hlo i0 (by decide) (by omega) hL dL_law_1273 dL_law_1274 dL_law_1276 dL_law_1277 dL_law_1278 rfl rfl rfl rfl rfl ?_
  refine l_arg C hlo i0 (by decide) (by omega) hL dL_law_1279 dL_law_1280 dL_law_1282 dL_law_1283 dL_law_1284 rfl rfl rfl rfl rfl ?_
  refine l_arg C hlo i0 (by decide) (by omega) hL dL_law_1285 dL_law_1286 dL_law_1288 dL_law_1289 dL_law_1290 rfl rfl rfl rfl rfl ?_
  refine l_arg C hlo i0 (by decide) (by omega) hL dL_law_1291 dL_law_1292 dL_law_1294 dL_law_1295 dL_law_1296 rfl rfl rfl rfl rfl ?_
  refine l_callR C (av := [(0, sx xs i 1), (0, sx xs i 2), (0, sx xs i 3), (0, sx xs i 4)]) (st := [.int (Int32.ofInt x)]) (n := 4) (sim_X14_looks hx) k_2247 k_2248 k_2249 k_147 k_2250 hdL_X14_looks rfl rfl rfl (mok_cons (sx_r) (mok_cons (sx_r) (mok_cons (sx_r) (mok_cons (sx_r) (fun _ y => by cases y))))) rfl (Nat.le_of_ble_eq_true rfl) dL_law_1297 hcs hss (fun y r' hy hok2 => ?_)
  obtain ⟨y, rfl, rfl, hR⟩ := hy
  refine l_eqI (x := Int32.ofInt x) C dL_law_1300 rfl ?_
  exact k _ _ (hR)
theorem lc_still (C : lC z aR oa b L xs p s m c) (hlo : lok z aR oa b i lo) (i0 : 0 ≤ i) (hi : i + 6 ≤ L) (hL : L ≤ 3072) (hcs : cells ≤ 601024) (hss : slots ≤ 7293033) (h : Rel q r) (k : ∀ q' r' : Mh, Rel q' r' → lG z aR oa b p l e s m below meth c Q cells slots 1503 lo [] q' r' ov) : lG z aR oa b p l e s m below meth c Q cells slots 1305 lo [] q r ov := by
  refine l_x C hlo dL_law_1305 ?_
  refine l_arg C hlo i0 (by decide) (by omega) hL dL_law_1306 dL_law_1307 dL_law_1309 dL_law_1310 dL_law_1311 rfl rfl rfl rfl rfl ?_
  refine l_arg C hlo i0 (by decide) (by omega) hL dL_law_1312 dL_law_1313 dL_law_1315 dL_law_1316 dL_law_1317 rfl rfl rfl rfl rfl ?_
  refine l_arg C hlo i0 (by decide) (by omega) hL dL_law_1318 dL_law_1319 dL_law_1321 dL_law_1322 dL_law_1323 rfl rfl rfl rfl rfl ?_
  refine l_arg C hlo i0 (by decide) (by omega) hL dL_law_1324 dL_law_1325 dL_law_1327 dL_law_1328 dL_law_1329 rfl rfl rfl rfl rfl ?_
  refine l_arg C hlo i0 (by decide) (by omega) hL dL_law_1330 dL_law_1331 dL_law_1333 dL_law_1334 dL_law_1335 rfl rfl rfl rfl rfl ?_
  refine l_callC C (av := [(0, sx xs i 1), (0, sx xs i 2), (0, sx xs i 3), (0, sx xs i 4), (0, sx xs i 5)]) (st := []) (n := 5) (sim_X13_still (op_still (sx xs i 1) (sx xs i 2) (sx xs i 3) (sx xs i 4) (sx xs i 5) h)) k_1397 k_1398 k_1399 k_134 k_1400 hdL_X13_still rfl rfl rfl (mok_cons (sx_r) (mok_cons (sx_r) (mok_cons (sx_r) (mok_cons (sx_r) (mok_cons (sx_r) (fun _ y => by cases y)))))) rfl (Nat.le_of_ble_eq_true rfl) dL_law_1336 hcs hss (fun x q' hx hok => ?_)
  obtain ⟨x, rfl, hx⟩ := hx
  refine l_m C hlo dL_law_1339 ?_
  refine l_arg C hlo i0 (by decide) (by omega) hL dL_law_1340 dL_law_1341 dL_law_1343 dL_law_1344 dL_law_1345 rfl rfl rfl rfl rfl ?_
  refine l_arg C hlo i0 (by decide) (by omega) hL dL_law_1346 dL_law_1347 dL_law_1349 dL_law_1350 dL_law_1351 rfl rfl rfl rfl rfl ?_
  refine l_arg C hlo i0 (by decide) (by omega) hL dL_law_1352 dL_law_1353 dL_law_1355 dL_law_1356 dL_law_1357 rfl rfl rfl rfl rfl ?_
  refine l_arg C hlo i0 (by decide) (by omega) hL dL_law_1358 dL_law_1359 dL_law_1361 dL_law_1362 dL_law_1363 rfl rfl rfl rfl rfl ?_
  refine l_arg C hlo i0 (by decide) (by omega) hL dL_law_1364 dL_law_1365 dL_law_1367 dL_law_1368 dL_law_1369 rfl rfl rfl rfl rfl ?_
  refine l_callR C (av := [(0, sx xs i 1), (0, sx xs i 2), (0, sx xs i 3), (0, sx xs i 4), (0, sx xs i 5)]) (st := [.long (Int64.ofInt x)]) (n := 5) (sim_X14_still hx) k_2251 k_2252 k_2253 k_147 k_2254 hdL_X14_still rfl rfl rfl (mok_cons (sx_r) (mok_cons (sx_r) (mok_cons (sx_r) (mok_cons (sx_r) (mok_cons (sx_r) (fun _ y => by cases y)))))) rfl (Nat.le_of_ble_eq_true rfl) dL_law_1370 hcs hss (fun y r' hy hok2 => ?_)
  obtain ⟨y, rfl, rfl, hR⟩ := hy
  refine l_eqL (x := Int64.ofInt x) C dL_law_1373 dL_law_1374 rfl ?_
  exact k _ _ (hR)
theorem lc_chance (C : lC z aR oa b L xs p s m c) (hlo : lok z aR oa b i lo) (i0 : 0 ≤ i) (hi : i + 6 ≤ L) (hL : L ≤ 3072) (hcs : cells ≤ 601024) (hss : slots ≤ 7293033) (h : Rel q r) (k : ∀ q' r' : Mh, Rel q' r' → lG z aR oa b p l e s m below meth c Q cells slots 1503 lo [] q' r' ov) : lG z aR oa b p l e s m below meth c Q cells slots 1379 lo [] q r ov := by
  refine l_x C hlo dL_law_1379 ?_
  refine l_arg C hlo i0 (by decide) (by omega) hL dL_law_1380 dL_law_1381 dL_law_1383 dL_law_1384 dL_law_1385 rfl rfl rfl rfl rfl ?_
  refine l_arg C hlo i0 (by decide) (by omega) hL dL_law_1386 dL_law_1387 dL_law_1389 dL_law_1390 dL_law_1391 rfl rfl rfl rfl rfl ?_
  refine l_arg C hlo i0 (by decide) (by omega) hL dL_law_1392 dL_law_1393 dL_law_1395 dL_law_1396 dL_law_1397 rfl rfl rfl rfl rfl ?_
  refine l_arg C hlo i0 (by decide) (by omega) hL dL_law_1398 dL_law_1399 dL_law_1401 dL_law_1402 dL_law_1403 rfl rfl rfl rfl rfl ?_
  refine l_arg C hlo i0 (by decide) (by omega) hL dL_law_1404 dL_law_1405 dL_law_1407 dL_law_1408 dL_law_1409 rfl rfl rfl rfl rfl ?_
  refine l_callC C (av := [(0, sx xs i 1), (0, sx xs i 2), (0, sx xs i 3), (0, sx xs i 4), (0, sx xs i 5)]) (st := []) (n := 5) (sim_X13_chance (op_chance (sx xs i 1) (sx xs i 2) (sx xs i 3) (sx xs i 4) (sx xs i 5) h)) k_1406 k_1407 k_1408 k_134 k_1409 hdL_X13_chance rfl rfl rfl (mok_cons (sx_r) (mok_cons (sx_r) (mok_cons (sx_r) (mok_cons (sx_r) (mok_cons (sx_r) (fun _ y => by cases y)))))) rfl (Nat.le_of_ble_eq_true rfl) dL_law_1410 hcs hss (fun x q' hx hok => ?_)
  obtain ⟨x, rfl, hx⟩ := hx
  refine l_m C hlo dL_law_1413 ?_
  refine l_arg C hlo i0 (by decide) (by omega) hL dL_law_1414 dL_law_1415 dL_law_1417 dL_law_1418 dL_law_1419 rfl rfl rfl rfl rfl ?_
  refine l_arg C hlo i0 (by decide) (by omega) hL dL_law_1420 dL_law_1421 dL_law_1423 dL_law_1424 dL_law_1425 rfl rfl rfl rfl rfl ?_
  refine l_arg C hlo i0 (by decide) (by omega) hL dL_law_1426 dL_law_1427 dL_law_1429 dL_law_1430 dL_law_1431 rfl rfl rfl rfl rfl ?_
  refine l_arg C hlo i0 (by decide) (by omega) hL dL_law_1432 dL_law_1433 dL_law_1435 dL_law_1436 dL_law_1437 rfl rfl rfl rfl rfl ?_
  refine l_arg C hlo i0 (by decide) (by omega) hL dL_law_1438 dL_law_1439 dL_law_1441 dL_law_1442 dL_law_1443 rfl rfl rfl rfl rfl ?_
  refine l_callR C (av := [(0, sx xs i 1), (0, sx xs i 2), (0, sx xs i 3), (0, sx xs i 4), (0, sx xs i 5)]) (st := [.int (Int32.ofInt x)]) (n := 5) (sim_X14_chance hx) k_2256 k_2257 k_2258 k_147 k_2259 hdL_X14_chance rfl rfl rfl (mok_cons (sx_r) (mok_cons (sx_r) (mok_cons (sx_r) (mok_cons (sx_r) (mok_cons (sx_r) (fun _ y => by cases y)))))) rfl (Nat.le_of_ble_eq_true rfl) dL_law_1444 hcs hss (fun y r' hy hok2 => ?_)
  obtain ⟨y, rfl, rfl, hR⟩ := hy
  refine l_eqI (x := Int32.ofInt x) C dL_law_1447 rfl ?_
  exact k _ _ (hR)
theorem lc_keep (C : lC z aR oa b L xs p s m c) (hlo : lok z aR oa b i lo) (i0 : 0 ≤ i) (hi : i + 6 ≤ L) (hL : L ≤ 3072) (hcs : cells ≤ 601024) (hss : slots ≤ 7293033) (h : Rel q r) (k : ∀ q' r' : Mh, Rel q' r' → lG z aR oa b p l e s m below meth c Q cells slots 1503 lo [] q' r' ov) : lG z aR oa b p l e s m below meth c Q cells slots 1452 lo [] q r ov := by
  refine l_x C hlo dL_law_1452 ?_
  refine l_callC C (av := []) (st := []) (n := 0) (sim_X13_keep (op_keep h)) k_1426 k_1427 k_1428 k_134 k_1429 hdL_X13_keep rfl rfl rfl (fun _ y => by cases y) rfl (Nat.le_of_ble_eq_true rfl) dL_law_1453 hcs hss (fun x q' hx hok => ?_)
  obtain ⟨x, rfl, hx⟩ := hx
  refine l_m C hlo dL_law_1456 ?_
  refine l_callR C (av := []) (st := [.int (Int32.ofInt x)]) (n := 0) (sim_X14_keep hx) k_2268 k_2269 k_2270 k_147 k_2271 hdL_X14_keep rfl rfl rfl (fun _ y => by cases y) rfl (Nat.le_of_ble_eq_true rfl) dL_law_1457 hcs hss (fun y r' hy hok2 => ?_)
  obtain ⟨y, rfl, rfl, hR⟩ := hy
  refine l_eqI (x := Int32.ofInt x) C dL_law_1460 rfl ?_
  exact k _ _ (hR)
theorem lc_back (C : lC z aR oa b L xs p s m c) (hlo : lok z aR oa b i lo) (i0 : 0 ≤ i) (hi : i + 6 ≤ L) (hL : L ≤ 3072) (hcs : cells ≤ 601024) (hss : slots ≤ 7293033) (h : Rel q r) (k : ∀ q' r' : Mh, Rel q' r' → lG z aR oa b p l e s m below meth c Q cells slots 1503 lo [] q' r' ov) : lG z aR oa b p l e s m below meth c Q cells slots 1465 lo [] q r ov := by
  refine l_x C hlo dL_law_1465 ?_
  refine l_callC C (av := []) (st := []) (n := 0) (sim_X13_back (op_back h)) k_1434 k_1435 k_1436 k_134 k_1437 hdL_X13_back rfl rfl rfl (fun _ y => by cases y) rfl (Nat.le_of_ble_eq_true rfl) dL_law_1466 hcs hss (fun x q' hx hok => ?_)
  obtain ⟨x, rfl, hx⟩ := hx
  refine l_m C hlo dL_law_1469 ?_
  refine l_callR C (av := []) (st := [.int (Int32.ofInt x)]) (n := 0) (sim_X14_back hx) k_2272 k_2273 k_2274 k_147 k_2275 hdL_X14_back rfl rfl rfl (fun _ y => by cases y) rfl (Nat.le_of_ble_eq_true rfl) dL_law_1470 hcs hss (fun y r' hy hok2 => ?_)
  obtain ⟨y, rfl, rfl, hR⟩ := hy
  refine l_eqI (x := Int32.ofInt x) C dL_law_1473 rfl ?_
  exact k _ _ (hR)
theorem lc_count (C : lC z aR oa b L xs p s m c) (hlo : lok z aR oa b i lo) (i0 : 0 ≤ i) (hi : i + 6 ≤ L) (hL : L ≤ 3072) (hcs : cells ≤ 601024) (hss : slots ≤ 7293033) (h : Rel q r) (k : ∀ q' r' : Mh, Rel q' r' → lG z aR oa b p l e s m below meth c Q cells slots 1503 lo [] q' r' ov) : lG z aR oa b p l e s m below meth c Q cells slots 1478 lo [] q r ov := by
  refine l_x C hlo dL_law_1478 ?_
  refine l_arg C hlo i0 (by decide) (by omega) hL dL_law_1479 dL_law_1480 dL_law_1482 dL_law_1483 dL_law_1484 rfl rfl rfl rfl rfl ?_
  refine l_callC C (av := [(0, sx xs i 1)]) (st := []) (n := 1) (sim_X13_count (op_count (sx xs i 1) h)) k_1442 k_1443 k_1444 k_134 k_1445 hdL_X13_count rfl rfl rfl (mok_cons (sx_r) (fun _ y => by cases y)) rfl (Nat.le_of_ble_eq_true rfl) dL_law_1485 hcs hss (fun x q' hx hok => ?_)
  obtain ⟨x, rfl, hx⟩ := hx
  refine l_m C hlo dL_law_1488 ?_
  refine l_arg C hlo i0 (by decide) (by omega) hL dL_law_1489 dL_law_1490 dL_law_1492 dL_law_1493 dL_law_1494 rfl rfl rfl rfl rfl ?_
  refine l_callR C (av := [(0, sx xs i 1)]) (st := [.int (Int32.ofInt x)]) (n := 1) (sim_X14_count hx) k_2276 k_2277 k_2278 k_147 k_2279 hdL_X14_count rfl rfl rfl (mok_cons (sx_r) (fun _ y => by cases y)) rfl (Nat.le_of_ble_eq_true rfl) dL_law_1495 hcs hss (fun y r' hy hok2 => ?_)
  obtain ⟨y, rfl, rfl, hR⟩ := hy
  refine l_eqI (x := Int32.ofInt x) C dL_law_1498 rfl ?_
  exact k _ _ (hR)
end LCS
