def am_cw (z : Nat) : Cond := if am_tr z = true then .code (am_y z) (am_by z) (am_mL z) (am_ret z) else .codeWith (am_y z) (am_by z) (am_mL z) (am_ret z) (am_hh z)
/-- 0 static, 1 by its class, 2 a constructor -/
def am_ks : Nat → Nat := fun k => match k with
  | 0 => 2
  | 1 => 1
  | 2 => 2
  | 3 => 1
  | 4 => 1
  | 5 => 1
  | 6 => 1
  | 7 => 1
  | 8 => 1
  | 9 => 1
  | 10 => 1
  | 11 => 1
  | 12 => 1
  | 13 => 1
  | 14 => 1
  | 15 => 2
  | 16 => 1
  | 17 => 1
  | 18 => 1
  | 19 => 1
  | 20 => 1
  | 21 => 2
  | 22 => 1
  | 23 => 1
  | 24 => 1
  | 25 => 2
  | 26 => 1
  | 27 => 1
  | 28 => 1
  | 29 => 1
  | 30 => 1
  | 31 => 1
  | 32 => 1
  | 33 => 2
  | 34 => 1
  | 35 => 1
  | 36 => 1
  | 37 => 1
  | 38 => 1
  | 39 => 1
  | 40 => 1
  | 41 => 1
  | 42 => 1
  | 43 => 1
  | 44 => 1
  | 45 => 1
  | 46 => 1
  | 47 => 1
  | 48 => 1
  | 49 => 1
  | 50 => 1
  | 51 => 1
  | 52 => 1
  | 53 => 1
  | 54 => 1
  | 55 => 1
  | 56 => 1
  | 57 => 1
  | 58 => 1
  | 59 => 1
  | 60 => 1
  | 61 => 1
  | 62 => 2
  | 63 => 1
  | 64 => 2
  | 65 => 2
  | 66 => 1
  | 67 => 1
  | 68 => 1
  | 69 => 1
  | 70 => 1
  | 71 => 1
  | 72 => 1
  | 73 => 1
  | 74 => 1
  | 75 => 1
  | 76 => 1
  | 77 => 1
  | 78 => 1
  | 79 => 1
  | 80 => 1
  | 81 => 1
  | 82 => 1
  | 83 => 1
  | 84 => 1
  | 85 => 1
  | 86 => 1
  | 87 => 1
  | 88 => 1
  | 89 => 1
  | 90 => 1
  | 91 => 1
  | 92 => 1
  | 93 => 1
  | 94 => 1
  | 95 => 1
  | 96 => 1
  | 97 => 1
  | 98 => 1
  | 99 => 1
  | 100 => 1
  | 101 => 1
  | 102 => 1
  | 103 => 1
  | 104 => 1
  | 105 => 1
  | 106 => 1
  | 107 => 1
  | 108 => 1
  | 109 => 1
  | 110 => 0
  | 111 => 0
  | 112 => 0
  | 113 => 2
  | 114 => 1
  | 115 => 1
  | 116 => 0
  | 117 => 1
  | 118 => 1
  | 119 => 1
  | 120 => 1
  | 121 => 1
  | 122 => 1
  | 123 => 1
  | 124 => 1
  | 125 => 1
  | 126 => 1
  | 127 => 1
  | 128 => 1
  | 129 => 1
  | 130 => 1
  | 131 => 1
  | 132 => 1
  | 133 => 1
  | 134 => 1
  | 135 => 1
  | 136 => 1
  | 137 => 1
  | 138 => 1
  | 139 => 1
  | 140 => 1
  | 141 => 1
  | 142 => 1
  | 143 => 1
  | 144 => 1
  | 145 => 1
  | 146 => 1
  | 147 => 1
  | 148 => 1
  | 149 => 1
  | 150 => 1
  | 151 => 1
  | 152 => 1
  | 153 => 0
  | 154 => 1
  | 155 => 1
  | 156 => 1
  | 157 => 1
  | 158 => 1
  | 159 => 1
  | 160 => 1
  | 161 => 1
  | 162 => 1
  | 163 => 1
  | 164 => 1
  | 165 => 1
  | 166 => 1
  | 167 => 1
  | 168 => 1
  | 169 => 1
  | 170 => 1
  | 171 => 1
  | 172 => 1
  | 173 => 1
  | 174 => 1
  | 175 => 1
  | 176 => 1
  | 177 => 1
  | 178 => 1
  | 179 => 1
  | 180 => 1
  | 181 => 1
  | 182 => 1
  | 183 => 1
  | 184 => 1
  | 185 => 1
  | 186 => 1
  | 187 => 1
  | 188 => 1
  | 189 => 1
  | 190 => 1
  | 191 => 1
  | 192 => 1
  | 193 => 1
  | 194 => 1
  | 195 => 0
  | 196 => 0
  | 197 => 0
  | 198 => 0
  | 199 => 0
  | 200 => 0
  | 201 => 0
  | 202 => 0
  | 203 => 0
  | 204 => 0
  | 205 => 0
  | 206 => 0
  | 207 => 0
  | 208 => 0
  | 209 => 0
  | 210 => 0
  | 211 => 0
  | 212 => 0
  | 213 => 0
  | 214 => 0
  | 215 => 0
  | 216 => 0
  | 217 => 0
  | 218 => 0
  | 219 => 0
  | 220 => 0
  | 221 => 0
  | 222 => 0
  | 223 => 0
  | 224 => 0
  | 225 => 0
  | 226 => 0
  | 227 => 0
  | _ => 9
def am_zw (z : Nat) (q : Nat × Nat × Nat) : Bool := am_at q.1 (am_cw z) && (match am_ks z with
  | 0 => am_at q.2.1 (.static (am_y z))
  | 1 => am_at q.2.1 (.instanceMethod (am_y z)) && am_at q.2.2 (.selects (am_cR (am_own z)) (am_y z) (am_y z))
  | 2 => am_at q.2.1 (.instanceMethod (am_y z)) && decide ((am_y z).name = "<init>")
  | _ => false)
  && decide ((am_y z).cls = am_cR (am_own z)) && decide ((am_y z).cls ≠ "java/lang/invoke/MethodHandle") && decide ((am_y z).cls ≠ "java/lang/invoke/VarHandle") && decide ((parseMethodDescriptor (am_y z).desc).map (fun d => d.parameters.length) = some (am_na z)) && plainName (am_y z).cls && decide (am_own z < 11) && (am_ini z == (am_ks z == 2)) && decide (am_mL z ≤ 12) && decide (am_na z + (if am_ks z = 0 then 0 else 1) ≤ am_mL z)
  && (match am_rt z, am_ret z with
  | 0, none => true
  | 1, some .int => true
  | 2, some .boolean => true
  | 3, some .char => true
  | 4, some .float => true
  | 5, some .double => true
  | 6, some (.object _) => true
  | _, _ => false)
theorem am_zw0 : am_zw 0 (295, 294, 0) = true := by decide +kernel
theorem am_zw1 : am_zw 1 (425, 423, 424) = true := by decide +kernel
theorem am_zw2 : am_zw 2 (318, 317, 0) = true := by decide +kernel
theorem am_zw3 : am_zw 3 (933, 931, 932) = true := by decide +kernel
theorem am_zw4 : am_zw 4 (944, 942, 943) = true := by decide +kernel
theorem am_zw5 : am_zw 5 (948, 946, 947) = true := by decide +kernel
theorem am_zw6 : am_zw 6 (956, 954, 955) = true := by decide +kernel
theorem am_zw7 : am_zw 7 (973, 971, 972) = true := by decide +kernel
theorem am_zw8 : am_zw 8 (981, 979, 980) = true := by decide +kernel
theorem am_zw9 : am_zw 9 (985, 983, 984) = true := by decide +kernel
theorem am_zw10 : am_zw 10 (952, 950, 951) = true := by decide +kernel
theorem am_zw11 : am_zw 11 (964, 962, 963) = true := by decide +kernel
theorem am_zw12 : am_zw 12 (960, 958, 959) = true := by decide +kernel
theorem am_zw13 : am_zw 13 (977, 975, 976) = true := by decide +kernel
theorem am_zw14 : am_zw 14 (968, 966, 967) = true := by decide +kernel
theorem am_zw15 : am_zw 15 (98, 97, 0) = true := by decide +kernel
theorem am_zw16 : am_zw 16 (452, 450, 451) = true := by decide +kernel
theorem am_zw17 : am_zw 17 (404, 402, 403) = true := by decide +kernel
theorem am_zw18 : am_zw 18 (528, 526, 527) = true := by decide +kernel
theorem am_zw19 : am_zw 19 (500, 498, 499) = true := by decide +kernel
theorem am_zw20 : am_zw 20 (512, 510, 511) = true := by decide +kernel
theorem am_zw21 : am_zw 21 (257, 256, 0) = true := by decide +kernel
theorem am_zw22 : am_zw 22 (433, 431, 432) = true := by decide +kernel
theorem am_zw23 : am_zw 23 (641, 639, 640) = true := by decide +kernel
theorem am_zw24 : am_zw 24 (1082, 1080, 1081) = true := by decide +kernel
theorem am_zw25 : am_zw 25 (159, 158, 0) = true := by decide +kernel
theorem am_zw26 : am_zw 26 (492, 490, 491) = true := by decide +kernel
theorem am_zw27 : am_zw 27 (412, 410, 411) = true := by decide +kernel
theorem am_zw28 : am_zw 28 (496, 494, 495) = true := by decide +kernel
theorem am_zw29 : am_zw 29 (552, 550, 551) = true := by decide +kernel
theorem am_zw30 : am_zw 30 (548, 546, 547) = true := by decide +kernel
theorem am_zw31 : am_zw 31 (532, 530, 531) = true := by decide +kernel
theorem am_zw32 : am_zw 32 (388, 386, 387) = true := by decide +kernel
theorem am_zw33 : am_zw 33 (87, 86, 0) = true := by decide +kernel
theorem am_zw34 : am_zw 34 (400, 398, 399) = true := by decide +kernel
theorem am_zw35 : am_zw 35 (464, 462, 463) = true := by decide +kernel
theorem am_zw36 : am_zw 36 (475, 473, 474) = true := by decide +kernel
theorem am_zw37 : am_zw 37 (508, 506, 507) = true := by decide +kernel
theorem am_zw38 : am_zw 38 (524, 522, 523) = true := by decide +kernel
theorem am_zw39 : am_zw 39 (437, 435, 436) = true := by decide +kernel
theorem am_zw40 : am_zw 40 (441, 439, 440) = true := by decide +kernel
theorem am_zw41 : am_zw 41 (456, 454, 455) = true := by decide +kernel
theorem am_zw42 : am_zw 42 (460, 458, 459) = true := by decide +kernel
theorem am_zw43 : am_zw 43 (471, 469, 470) = true := by decide +kernel
theorem am_zw44 : am_zw 44 (479, 477, 478) = true := by decide +kernel
theorem am_zw45 : am_zw 45 (483, 481, 482) = true := by decide +kernel
theorem am_zw46 : am_zw 46 (487, 485, 486) = true := by decide +kernel
theorem am_zw47 : am_zw 47 (504, 502, 503) = true := by decide +kernel
theorem am_zw48 : am_zw 48 (516, 514, 515) = true := by decide +kernel
theorem am_zw49 : am_zw 49 (520, 518, 519) = true := by decide +kernel
theorem am_zw50 : am_zw 50 (544, 542, 543) = true := by decide +kernel
theorem am_zw51 : am_zw 51 (558, 556, 557) = true := by decide +kernel
theorem am_zw52 : am_zw 52 (562, 560, 561) = true := by decide +kernel
theorem am_zw53 : am_zw 53 (566, 564, 565) = true := by decide +kernel
theorem am_zw54 : am_zw 54 (540, 538, 539) = true := by decide +kernel
theorem am_zw55 : am_zw 55 (536, 534, 535) = true := by decide +kernel
theorem am_zw56 : am_zw 56 (901, 899, 900) = true := by decide +kernel
theorem am_zw57 : am_zw 57 (905, 903, 904) = true := by decide +kernel
theorem am_zw58 : am_zw 58 (1059, 1057, 1058) = true := by decide +kernel
theorem am_zw59 : am_zw 59 (1063, 1061, 1062) = true := by decide +kernel
theorem am_zw60 : am_zw 60 (1067, 1065, 1066) = true := by decide +kernel
theorem am_zw61 : am_zw 61 (1071, 1069, 1070) = true := by decide +kernel
theorem am_zw62 : am_zw 62 (277, 276, 0) = true := by decide +kernel
theorem am_zw63 : am_zw 63 (448, 446, 447) = true := by decide +kernel
theorem am_zw64 : am_zw 64 (145, 144, 0) = true := by decide +kernel
theorem am_zw65 : am_zw 65 (79, 78, 0) = true := by decide +kernel
theorem am_zw66 : am_zw 66 (421, 419, 420) = true := by decide +kernel
theorem am_zw67 : am_zw 67 (648, 646, 647) = true := by decide +kernel
theorem am_zw68 : am_zw 68 (655, 653, 654) = true := by decide +kernel
theorem am_zw69 : am_zw 69 (662, 660, 661) = true := by decide +kernel
theorem am_zw70 : am_zw 70 (669, 667, 668) = true := by decide +kernel
theorem am_zw71 : am_zw 71 (676, 674, 675) = true := by decide +kernel
theorem am_zw72 : am_zw 72 (683, 681, 682) = true := by decide +kernel
theorem am_zw73 : am_zw 73 (690, 688, 689) = true := by decide +kernel
theorem am_zw74 : am_zw 74 (429, 428, 0) = true := by decide +kernel
theorem am_zw75 : am_zw 75 (731, 729, 730) = true := by decide +kernel
theorem am_zw76 : am_zw 76 (775, 773, 774) = true := by decide +kernel
theorem am_zw77 : am_zw 77 (787, 785, 786) = true := by decide +kernel
theorem am_zw78 : am_zw 78 (850, 848, 849) = true := by decide +kernel
theorem am_zw79 : am_zw 79 (862, 860, 861) = true := by decide +kernel
theorem am_zw80 : am_zw 80 (870, 868, 869) = true := by decide +kernel
theorem am_zw81 : am_zw 81 (1035, 1033, 1034) = true := by decide +kernel
theorem am_zw82 : am_zw 82 (735, 734, 2) = true := by decide +kernel
theorem am_zw83 : am_zw 83 (779, 778, 3) = true := by decide +kernel
theorem am_zw84 : am_zw 84 (854, 853, 5) = true := by decide +kernel
theorem am_zw85 : am_zw 85 (794, 792, 793) = true := by decide +kernel
theorem am_zw86 : am_zw 86 (806, 804, 805) = true := by decide +kernel
theorem am_zw87 : am_zw 87 (813, 811, 812) = true := by decide +kernel
theorem am_zw88 : am_zw 88 (821, 819, 820) = true := by decide +kernel
theorem am_zw89 : am_zw 89 (843, 841, 842) = true := by decide +kernel
theorem am_zw90 : am_zw 90 (878, 876, 877) = true := by decide +kernel
theorem am_zw91 : am_zw 91 (890, 888, 889) = true := by decide +kernel
theorem am_zw92 : am_zw 92 (882, 881, 6) = true := by decide +kernel
theorem am_zw93 : am_zw 93 (798, 797, 4) = true := by decide +kernel
theorem am_zw94 : am_zw 94 (897, 895, 896) = true := by decide +kernel
theorem am_zw95 : am_zw 95 (380, 378, 379) = true := by decide +kernel
theorem am_zw96 : am_zw 96 (384, 382, 383) = true := by decide +kernel
theorem am_zw97 : am_zw 97 (1047, 1045, 1046) = true := by decide +kernel
theorem am_zw98 : am_zw 98 (914, 912, 913) = true := by decide +kernel
theorem am_zw99 : am_zw 99 (940, 938, 939) = true := by decide +kernel
theorem am_zw100 : am_zw 100 (392, 390, 391) = true := by decide +kernel
theorem am_zw101 : am_zw 101 (992, 990, 991) = true := by decide +kernel
theorem am_zw102 : am_zw 102 (999, 997, 998) = true := by decide +kernel
theorem am_zw103 : am_zw 103 (1003, 1002, 7) = true := by decide +kernel
theorem am_zw104 : am_zw 104 (1007, 1006, 8) = true := by decide +kernel
theorem am_zw105 : am_zw 105 (1014, 1012, 1013) = true := by decide +kernel
theorem am_zw106 : am_zw 106 (1055, 1053, 1054) = true := by decide +kernel
theorem am_zw107 : am_zw 107 (1078, 1076, 1077) = true := by decide +kernel
theorem am_zw108 : am_zw 108 (396, 394, 395) = true := by decide +kernel
theorem am_zw109 : am_zw 109 (1089, 1087, 1088) = true := by decide +kernel
theorem am_zw110 : am_zw 110 (444, 443, 0) = true := by decide +kernel
theorem am_zw111 : am_zw 111 (467, 466, 0) = true := by decide +kernel
theorem am_zw112 : am_zw 112 (569, 568, 0) = true := by decide +kernel
theorem am_zw113 : am_zw 113 (1094, 1093, 0) = true := by decide +kernel
theorem am_zw114 : am_zw 114 (1163, 1161, 1162) = true := by decide +kernel
theorem am_zw115 : am_zw 115 (1190, 1189, 13) = true := by decide +kernel
theorem am_zw116 : am_zw 116 (1174, 1173, 0) = true := by decide +kernel
theorem am_zw117 : am_zw 117 (1171, 1170, 9) = true := by decide +kernel
theorem am_zw118 : am_zw 118 (1437, 1436, 48) = true := by decide +kernel
theorem am_zw119 : am_zw 119 (1373, 1372, 38) = true := by decide +kernel
theorem am_zw120 : am_zw 120 (1377, 1376, 39) = true := by decide +kernel
theorem am_zw121 : am_zw 121 (1186, 1185, 12) = true := by decide +kernel
theorem am_zw122 : am_zw 122 (1178, 1177, 10) = true := by decide +kernel
theorem am_zw123 : am_zw 123 (1210, 1209, 16) = true := by decide +kernel
theorem am_zw124 : am_zw 124 (1182, 1181, 11) = true := by decide +kernel
theorem am_zw125 : am_zw 125 (1206, 1205, 15) = true := by decide +kernel
theorem am_zw126 : am_zw 126 (1222, 1221, 18) = true := by decide +kernel
theorem am_zw127 : am_zw 127 (1263, 1262, 25) = true := by decide +kernel
theorem am_zw128 : am_zw 128 (1238, 1237, 21) = true := by decide +kernel
theorem am_zw129 : am_zw 129 (1267, 1266, 26) = true := by decide +kernel
theorem am_zw130 : am_zw 130 (1251, 1250, 23) = true := by decide +kernel
theorem am_zw131 : am_zw 131 (1226, 1225, 19) = true := by decide +kernel
theorem am_zw132 : am_zw 132 (1167, 1165, 1166) = true := by decide +kernel
theorem am_zw133 : am_zw 133 (1194, 1192, 1193) = true := by decide +kernel
theorem am_zw134 : am_zw 134 (1202, 1201, 14) = true := by decide +kernel
theorem am_zw135 : am_zw 135 (1198, 1196, 1197) = true := by decide +kernel
theorem am_zw136 : am_zw 136 (1218, 1217, 17) = true := by decide +kernel
theorem am_zw137 : am_zw 137 (1214, 1212, 1213) = true := by decide +kernel
theorem am_zw138 : am_zw 138 (1234, 1233, 20) = true := by decide +kernel
theorem am_zw139 : am_zw 139 (1230, 1228, 1229) = true := by decide +kernel
theorem am_zw140 : am_zw 140 (1246, 1245, 22) = true := by decide +kernel
theorem am_zw141 : am_zw 141 (1242, 1240, 1241) = true := by decide +kernel
theorem am_zw142 : am_zw 142 (1259, 1258, 24) = true := by decide +kernel
theorem am_zw143 : am_zw 143 (1255, 1253, 1254) = true := by decide +kernel
theorem am_zw144 : am_zw 144 (1283, 1282, 29) = true := by decide +kernel
theorem am_zw145 : am_zw 145 (1291, 1290, 31) = true := by decide +kernel
theorem am_zw146 : am_zw 146 (1287, 1286, 30) = true := by decide +kernel
theorem am_zw147 : am_zw 147 (1307, 1306, 35) = true := by decide +kernel
theorem am_zw148 : am_zw 148 (1303, 1302, 34) = true := by decide +kernel
theorem am_zw149 : am_zw 149 (1333, 1332, 36) = true := by decide +kernel
theorem am_zw150 : am_zw 150 (1295, 1294, 32) = true := by decide +kernel
theorem am_zw151 : am_zw 151 (1299, 1298, 33) = true := by decide +kernel
theorem am_zw152 : am_zw 152 (1279, 1278, 28) = true := by decide +kernel
theorem am_zw153 : am_zw 153 (1313, 1312, 0) = true := by decide +kernel
theorem am_zw154 : am_zw 154 (1275, 1274, 27) = true := by decide +kernel
theorem am_zw155 : am_zw 155 (1271, 1269, 1270) = true := by decide +kernel
theorem am_zw156 : am_zw 156 (1473, 1472, 50) = true := by decide +kernel
theorem am_zw157 : am_zw 157 (1317, 1315, 1316) = true := by decide +kernel
theorem am_zw158 : am_zw 158 (1321, 1319, 1320) = true := by decide +kernel
theorem am_zw159 : am_zw 159 (1325, 1323, 1324) = true := by decide +kernel
theorem am_zw160 : am_zw 160 (1329, 1327, 1328) = true := by decide +kernel
theorem am_zw161 : am_zw 161 (1337, 1335, 1336) = true := by decide +kernel
theorem am_zw162 : am_zw 162 (1341, 1339, 1340) = true := by decide +kernel
theorem am_zw163 : am_zw 163 (1345, 1343, 1344) = true := by decide +kernel
theorem am_zw164 : am_zw 164 (1349, 1347, 1348) = true := by decide +kernel
theorem am_zw165 : am_zw 165 (1353, 1351, 1352) = true := by decide +kernel
theorem am_zw166 : am_zw 166 (1357, 1355, 1356) = true := by decide +kernel
theorem am_zw167 : am_zw 167 (1361, 1359, 1360) = true := by decide +kernel
theorem am_zw168 : am_zw 168 (1369, 1368, 37) = true := by decide +kernel
theorem am_zw169 : am_zw 169 (1365, 1363, 1364) = true := by decide +kernel
theorem am_zw170 : am_zw 170 (1381, 1379, 1380) = true := by decide +kernel
theorem am_zw171 : am_zw 171 (1389, 1388, 40) = true := by decide +kernel
theorem am_zw172 : am_zw 172 (1385, 1383, 1384) = true := by decide +kernel
theorem am_zw173 : am_zw 173 (1393, 1391, 1392) = true := by decide +kernel
theorem am_zw174 : am_zw 174 (1401, 1400, 41) = true := by decide +kernel
theorem am_zw175 : am_zw 175 (1397, 1395, 1396) = true := by decide +kernel
theorem am_zw176 : am_zw 176 (1405, 1403, 1404) = true := by decide +kernel
theorem am_zw177 : am_zw 177 (1425, 1424, 45) = true := by decide +kernel
theorem am_zw178 : am_zw 178 (1421, 1420, 44) = true := by decide +kernel
theorem am_zw179 : am_zw 179 (1417, 1416, 43) = true := by decide +kernel
theorem am_zw180 : am_zw 180 (1429, 1428, 46) = true := by decide +kernel
theorem am_zw181 : am_zw 181 (1413, 1412, 42) = true := by decide +kernel
theorem am_zw182 : am_zw 182 (1433, 1432, 47) = true := by decide +kernel
theorem am_zw183 : am_zw 183 (1409, 1407, 1408) = true := by decide +kernel
theorem am_zw184 : am_zw 184 (1441, 1439, 1440) = true := by decide +kernel
theorem am_zw185 : am_zw 185 (1445, 1443, 1444) = true := by decide +kernel
theorem am_zw186 : am_zw 186 (1453, 1452, 49) = true := by decide +kernel
theorem am_zw187 : am_zw 187 (1449, 1447, 1448) = true := by decide +kernel
theorem am_zw188 : am_zw 188 (1457, 1455, 1456) = true := by decide +kernel
theorem am_zw189 : am_zw 189 (1461, 1459, 1460) = true := by decide +kernel
theorem am_zw190 : am_zw 190 (1465, 1463, 1464) = true := by decide +kernel
theorem am_zw191 : am_zw 191 (1469, 1467, 1468) = true := by decide +kernel
theorem am_zw192 : am_zw 192 (1477, 1475, 1476) = true := by decide +kernel
theorem am_zw193 : am_zw 193 (1481, 1479, 1480) = true := by decide +kernel
theorem am_zw194 : am_zw 194 (1485, 1483, 1484) = true := by decide +kernel
theorem am_zw195 : am_zw 195 (416, 415, 0) = true := by decide +kernel
theorem am_zw196 : am_zw 196 (644, 643, 0) = true := by decide +kernel
theorem am_zw197 : am_zw 197 (651, 650, 0) = true := by decide +kernel
theorem am_zw198 : am_zw 198 (658, 657, 0) = true := by decide +kernel
theorem am_zw199 : am_zw 199 (665, 664, 0) = true := by decide +kernel
theorem am_zw200 : am_zw 200 (672, 671, 0) = true := by decide +kernel
theorem am_zw201 : am_zw 201 (679, 678, 0) = true := by decide +kernel
theorem am_zw202 : am_zw 202 (686, 685, 0) = true := by decide +kernel
theorem am_zw203 : am_zw 203 (693, 692, 0) = true := by decide +kernel
theorem am_zw204 : am_zw 204 (771, 770, 0) = true := by decide +kernel
theorem am_zw205 : am_zw 205 (783, 782, 0) = true := by decide +kernel
theorem am_zw206 : am_zw 206 (790, 789, 0) = true := by decide +kernel
theorem am_zw207 : am_zw 207 (802, 801, 0) = true := by decide +kernel
theorem am_zw208 : am_zw 208 (809, 808, 0) = true := by decide +kernel
theorem am_zw209 : am_zw 209 (816, 815, 0) = true := by decide +kernel
theorem am_zw210 : am_zw 210 (839, 838, 0) = true := by decide +kernel
theorem am_zw211 : am_zw 211 (846, 845, 0) = true := by decide +kernel
theorem am_zw212 : am_zw 212 (858, 857, 0) = true := by decide +kernel
theorem am_zw213 : am_zw 213 (866, 865, 0) = true := by decide +kernel
theorem am_zw214 : am_zw 214 (874, 873, 0) = true := by decide +kernel
theorem am_zw215 : am_zw 215 (886, 885, 0) = true := by decide +kernel
theorem am_zw216 : am_zw 216 (893, 892, 0) = true := by decide +kernel
theorem am_zw217 : am_zw 217 (909, 908, 0) = true := by decide +kernel
theorem am_zw218 : am_zw 218 (936, 935, 0) = true := by decide +kernel
theorem am_zw219 : am_zw 219 (988, 987, 0) = true := by decide +kernel
theorem am_zw220 : am_zw 220 (995, 994, 0) = true := by decide +kernel
theorem am_zw221 : am_zw 221 (1010, 1009, 0) = true := by decide +kernel
theorem am_zw222 : am_zw 222 (1017, 1016, 0) = true := by decide +kernel
theorem am_zw223 : am_zw 223 (1043, 1042, 0) = true := by decide +kernel
theorem am_zw224 : am_zw 224 (1051, 1050, 0) = true := by decide +kernel
theorem am_zw225 : am_zw 225 (1074, 1073, 0) = true := by decide +kernel
theorem am_zw226 : am_zw 226 (1085, 1084, 0) = true := by decide +kernel
theorem am_zw_ok : ∀ z, z < 227 → ∃ q, am_zw z q = true := fun z h => match z, h with
  | 0, _ => ⟨_, am_zw0⟩
  | 1, _ => ⟨_, am_zw1⟩
  | 2, _ => ⟨_, am_zw2⟩
  | 3, _ => ⟨_, am_zw3⟩
  | 4, _ => ⟨_, am_zw4⟩
  | 5, _ => ⟨_, am_zw5⟩
  | 6, _ => ⟨_, am_zw6⟩
  | 7, _ => ⟨_, am_zw7⟩
  | 8, _ => ⟨_, am_zw8⟩
  | 9, _ => ⟨_, am_zw9⟩
  | 10, _ => ⟨_, am_zw10⟩
  | 11, _ => ⟨_, am_zw11⟩
  | 12, _ => ⟨_, am_zw12⟩
  | 13, _ => ⟨_, am_zw13⟩
  | 14, _ => ⟨_, am_zw14⟩
  | 15, _ => ⟨_, am_zw15⟩
  | 16, _ => ⟨_, am_zw16⟩
  | 17, _ => ⟨_, am_zw17⟩
  | 18, _ => ⟨_, am_zw18⟩
  | 19, _ => ⟨_, am_zw19⟩
  | 20, _ => ⟨_, am_zw20⟩
  | 21, _ => ⟨_, am_zw21⟩
  | 22, _ => ⟨_, am_zw22⟩
  | 23, _ => ⟨_, am_zw23⟩
  | 24, _ => ⟨_, am_zw24⟩
  | 25, _ => ⟨_, am_zw25⟩
  | 26, _ => ⟨_, am_zw26⟩
  | 27, _ => ⟨_, am_zw27⟩
  | 28, _ => ⟨_, am_zw28⟩
  | 29, _ => ⟨_, am_zw29⟩
  | 30, _ => ⟨_, am_zw30⟩
  | 31, _ => ⟨_, am_zw31⟩
  | 32, _ => ⟨_, am_zw32⟩
  | 33, _ => ⟨_, am_zw33⟩
  | 34, _ => ⟨_, am_zw34⟩
  | 35, _ => ⟨_, am_zw35⟩
  | 36, _ => ⟨_, am_zw36⟩
  | 37, _ => ⟨_, am_zw37⟩
  | 38, _ => ⟨_, am_zw38⟩
  | 39, _ => ⟨_, am_zw39⟩
  | 40, _ => ⟨_, am_zw40⟩
  | 41, _ => ⟨_, am_zw41⟩
  | 42, _ => ⟨_, am_zw42⟩
  | 43, _ => ⟨_, am_zw43⟩
  | 44, _ => ⟨_, am_zw44⟩
  | 45, _ => ⟨_, am_zw45⟩
  | 46, _ => ⟨_, am_zw46⟩
  | 47, _ => ⟨_, am_zw47⟩
  | 48, _ => ⟨_, am_zw48⟩
  | 49, _ => ⟨_, am_zw49⟩
  | 50, _ => ⟨_, am_zw50⟩
  | 51, _ => ⟨_, am_zw51⟩
  | 52, _ => ⟨_, am_zw52⟩
  | 53, _ => ⟨_, am_zw53⟩
  | 54, _ => ⟨_, am_zw54⟩
  | 55, _ => ⟨_, am_zw55⟩
  | 56, _ => ⟨_, am_zw56⟩
  | 57, _ => ⟨_, am_zw57⟩
  | 58, _ => ⟨_, am_zw58⟩
  | 59, _ => ⟨_, am_zw59⟩
  | 60, _ => ⟨_, am_zw60⟩
  | 61, _ => ⟨_, am_zw61⟩
  | 62, _ => ⟨_, am_zw62⟩
  | 63, _ => ⟨_, am_zw63⟩
  | 64, _ => ⟨_, am_zw64⟩
  | 65, _ => ⟨_, am_zw65⟩
  | 66, _ => ⟨_, am_zw66⟩
  | 67, _ => ⟨_, am_zw67⟩
  | 68, _ => ⟨_, am_zw68⟩
  | 69, _ => ⟨_, am_zw69⟩
  | 70, _ => ⟨_, am_zw70⟩
  | 71, _ => ⟨_, am_zw71⟩
  | 72, _ => ⟨_, am_zw72⟩
  | 73, _ => ⟨_, am_zw73⟩
  | 74, _ => ⟨_, am_zw74⟩
  | 75, _ => ⟨_, am_zw75⟩
  | 76, _ => ⟨_, am_zw76⟩
  | 77, _ => ⟨_, am_zw77⟩
  | 78, _ => ⟨_, am_zw78⟩
  | 79, _ => ⟨_, am_zw79⟩
  | 80, _ => ⟨_, am_zw80⟩
  | 81, _ => ⟨_, am_zw81⟩
  | 82, _ => ⟨_, am_zw82⟩
  | 83, _ => ⟨_, am_zw83⟩
  | 84, _ => ⟨_, am_zw84⟩
  | 85, _ => ⟨_, am_zw85⟩
  | 86, _ => ⟨_, am_zw86⟩
  | 87, _ => ⟨_, am_zw87⟩
  | 88, _ => ⟨_, am_zw88⟩
  | 89, _ => ⟨_, am_zw89⟩
  | 90, _ => ⟨_, am_zw90⟩
  | 91, _ => ⟨_, am_zw91⟩
  | 92, _ => ⟨_, am_zw92⟩
  | 93, _ => ⟨_, am_zw93⟩
  | 94, _ => ⟨_, am_zw94⟩
  | 95, _ => ⟨_, am_zw95⟩
  | 96, _ => ⟨_, am_zw96⟩
  | 97, _ => ⟨_, am_zw97⟩
  | 98, _ => ⟨_, am_zw98⟩
  | 99, _ => ⟨_, am_zw99⟩
  | 100, _ => ⟨_, am_zw100⟩
  | 101, _ => ⟨_, am_zw101⟩
  | 102, _ => ⟨_, am_zw102⟩
  | 103, _ => ⟨_, am_zw103⟩
  | 104, _ => ⟨_, am_zw104⟩
  | 105, _ => ⟨_, am_zw105⟩
  | 106, _ => ⟨_, am_zw106⟩
  | 107, _ => ⟨_, am_zw107⟩
  | 108, _ => ⟨_, am_zw108⟩
  | 109, _ => ⟨_, am_zw109⟩
  | 110, _ => ⟨_, am_zw110⟩
  | 111, _ => ⟨_, am_zw111⟩
  | 112, _ => ⟨_, am_zw112⟩
  | 113, _ => ⟨_, am_zw113⟩
  | 114, _ => ⟨_, am_zw114⟩
  | 115, _ => ⟨_, am_zw115⟩
  | 116, _ => ⟨_, am_zw116⟩
  | 117, _ => ⟨_, am_zw117⟩
  | 118, _ => ⟨_, am_zw118⟩
  | 119, _ => ⟨_, am_zw119⟩
  | 120, _ => ⟨_, am_zw120⟩
  | 121, _ => ⟨_, am_zw121⟩
  | 122, _ => ⟨_, am_zw122⟩
  | 123, _ => ⟨_, am_zw123⟩
  | 124, _ => ⟨_, am_zw124⟩
  | 125, _ => ⟨_, am_zw125⟩
  | 126, _ => ⟨_, am_zw126⟩
  | 127, _ => ⟨_, am_zw127⟩
  | 128, _ => ⟨_, am_zw128⟩
  | 129, _ => ⟨_, am_zw129⟩
  | 130, _ => ⟨_, am_zw130⟩
  | 131, _ => ⟨_, am_zw131⟩
  | 132, _ => ⟨_, am_zw132⟩
  | 133, _ => ⟨_, am_zw133⟩
  | 134, _ => ⟨_, am_zw134⟩
  | 135, _ => ⟨_, am_zw135⟩
  | 136, _ => ⟨_, am_zw136⟩
  | 137, _ => ⟨_, am_zw137⟩
  | 138, _ => ⟨_, am_zw138⟩
  | 139, _ => ⟨_, am_zw139⟩
  | 140, _ => ⟨_, am_zw140⟩
  | 141, _ => ⟨_, am_zw141⟩
  | 142, _ => ⟨_, am_zw142⟩
  | 143, _ => ⟨_, am_zw143⟩
  | 144, _ => ⟨_, am_zw144⟩
  | 145, _ => ⟨_, am_zw145⟩
  | 146, _ => ⟨_, am_zw146⟩
  | 147, _ => ⟨_, am_zw147⟩
  | 148, _ => ⟨_, am_zw148⟩
  | 149, _ => ⟨_, am_zw149⟩
  | 150, _ => ⟨_, am_zw150⟩
  | 151, _ => ⟨_, am_zw151⟩
  | 152, _ => ⟨_, am_zw152⟩
  | 153, _ => ⟨_, am_zw153⟩
  | 154, _ => ⟨_, am_zw154⟩
  | 155, _ => ⟨_, am_zw155⟩
  | 156, _ => ⟨_, am_zw156⟩
  | 157, _ => ⟨_, am_zw157⟩
  | 158, _ => ⟨_, am_zw158⟩
  | 159, _ => ⟨_, am_zw159⟩
  | 160, _ => ⟨_, am_zw160⟩
  | 161, _ => ⟨_, am_zw161⟩
  | 162, _ => ⟨_, am_zw162⟩
  | 163, _ => ⟨_, am_zw163⟩
  | 164, _ => ⟨_, am_zw164⟩
  | 165, _ => ⟨_, am_zw165⟩
  | 166, _ => ⟨_, am_zw166⟩
  | 167, _ => ⟨_, am_zw167⟩
  | 168, _ => ⟨_, am_zw168⟩
  | 169, _ => ⟨_, am_zw169⟩
  | 170, _ => ⟨_, am_zw170⟩
  | 171, _ => ⟨_, am_zw171⟩
  | 172, _ => ⟨_, am_zw172⟩
  | 173, _ => ⟨_, am_zw173⟩
  | 174, _ => ⟨_, am_zw174⟩
  | 175, _ => ⟨_, am_zw175⟩
  | 176, _ => ⟨_, am_zw176⟩
  | 177, _ => ⟨_, am_zw177⟩
  | 178, _ => ⟨_, am_zw178⟩
  | 179, _ => ⟨_, am_zw179⟩
  | 180, _ => ⟨_, am_zw180⟩
  | 181, _ => ⟨_, am_zw181⟩
  | 182, _ => ⟨_, am_zw182⟩
  | 183, _ => ⟨_, am_zw183⟩
  | 184, _ => ⟨_, am_zw184⟩
  | 185, _ => ⟨_, am_zw185⟩
  | 186, _ => ⟨_, am_zw186⟩
  | 187, _ => ⟨_, am_zw187⟩
  | 188, _ => ⟨_, am_zw188⟩
  | 189, _ => ⟨_, am_zw189⟩
  | 190, _ => ⟨_, am_zw190⟩
  | 191, _ => ⟨_, am_zw191⟩
  | 192, _ => ⟨_, am_zw192⟩
  | 193, _ => ⟨_, am_zw193⟩
  | 194, _ => ⟨_, am_zw194⟩
  | 195, _ => ⟨_, am_zw195⟩
  | 196, _ => ⟨_, am_zw196⟩
  | 197, _ => ⟨_, am_zw197⟩
  | 198, _ => ⟨_, am_zw198⟩
  | 199, _ => ⟨_, am_zw199⟩
  | 200, _ => ⟨_, am_zw200⟩
  | 201, _ => ⟨_, am_zw201⟩
  | 202, _ => ⟨_, am_zw202⟩
  | 203, _ => ⟨_, am_zw203⟩
  | 204, _ => ⟨_, am_zw204⟩
  | 205, _ => ⟨_, am_zw205⟩
  | 206, _ => ⟨_, am_zw206⟩
  | 207, _ => ⟨_, am_zw207⟩
  | 208, _ => ⟨_, am_zw208⟩
  | 209, _ => ⟨_, am_zw209⟩
  | 210, _ => ⟨_, am_zw210⟩
  | 211, _ => ⟨_, am_zw211⟩
  | 212, _ => ⟨_, am_zw212⟩
  | 213, _ => ⟨_, am_zw213⟩
  | 214, _ => ⟨_, am_zw214⟩
  | 215, _ => ⟨_, am_zw215⟩
  | 216, _ => ⟨_, am_zw216⟩
  | 217, _ => ⟨_, am_zw217⟩
  | 218, _ => ⟨_, am_zw218⟩
  | 219, _ => ⟨_, am_zw219⟩
  | 220, _ => ⟨_, am_zw220⟩
  | 221, _ => ⟨_, am_zw221⟩
  | 222, _ => ⟨_, am_zw222⟩
  | 223, _ => ⟨_, am_zw223⟩
  | 224, _ => ⟨_, am_zw224⟩
  | 225, _ => ⟨_, am_zw225⟩
  | 226, _ => ⟨_, am_zw226⟩
  | n + 227, h => absurd h (by omega)
