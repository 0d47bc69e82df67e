def am_cw (z : Nat) : Cond := if am_tr z = true then .code (am_y z) (am_by z) (am_mL z) (am_ret z) else .codeWith (am_y z) (am_by z) (am_mL z) (am_ret z) (am_hh z)
/-- 0 static, 1 by its class, 2 a constructor -/
def am_ks : Nat → Nat := fun k => match k with
  | 0 => 2
  | 1 => 1
  | 2 => 2
  | 3 => 1
  | 4 => 1
  | 5 => 1
  | 6 => 1
  | 7 => 1
  | 8 => 1
  | 9 => 1
  | 10 => 1
  | 11 => 1
  | 12 => 1
  | 13 => 1
  | 14 => 1
  | 15 => 2
  | 16 => 1
  | 17 => 1
  | 18 => 1
  | 19 => 1
  | 20 => 1
  | 21 => 2
  | 22 => 1
  | 23 => 1
  | 24 => 1
  | 25 => 2
  | 26 => 1
  | 27 => 1
  | 28 => 1
  | 29 => 1
  | 30 => 1
  | 31 => 1
  | 32 => 1
  | 33 => 2
  | 34 => 1
  | 35 => 1
  | 36 => 1
  | 37 => 1
  | 38 => 1
  | 39 => 1
  | 40 => 1
  | 41 => 1
  | 42 => 1
  | 43 => 1
  | 44 => 1
  | 45 => 1
  | 46 => 1
  | 47 => 1
  | 48 => 1
  | 49 => 1
  | 50 => 1
  | 51 => 1
  | 52 => 1
  | 53 => 1
  | 54 => 1
  | 55 => 1
  | 56 => 1
  | 57 => 1
  | 58 => 1
  | 59 => 1
  | 60 => 1
  | 61 => 1
  | 62 => 2
  | 63 => 1
  | 64 => 2
  | 65 => 2
  | 66 => 1
  | 67 => 1
  | 68 => 1
  | 69 => 1
  | 70 => 1
  | 71 => 1
  | 72 => 1
  | 73 => 1
  | 74 => 1
  | 75 => 1
  | 76 => 1
  | 77 => 1
  | 78 => 1
  | 79 => 1
  | 80 => 1
  | 81 => 1
  | 82 => 1
  | 83 => 1
  | 84 => 1
  | 85 => 1
  | 86 => 1
  | 87 => 1
  | 88 => 1
  | 89 => 1
  | 90 => 1
  | 91 => 1
  | 92 => 1
  | 93 => 1
  | 94 => 1
  | 95 => 1
  | 96 => 1
  | 97 => 1
  | 98 => 1
  | 99 => 1
  | 100 => 1
  | 101 => 1
  | 102 => 1
  | 103 => 1
  | 104 => 1
  | 105 => 1
  | 106 => 1
  | 107 => 1
  | 108 => 1
  | 109 => 1
  | 110 => 0
  | 111 => 0
  | 112 => 0
  | 113 => 2
  | 114 => 1
  | 115 => 1
  | 116 => 0
  | 117 => 1
  | 118 => 1
  | 119 => 1
  | 120 => 1
  | 121 => 1
  | 122 => 1
  | 123 => 1
  | 124 => 1
  | 125 => 1
  | 126 => 1
  | 127 => 1
  | 128 => 1
  | 129 => 1
  | 130 => 1
  | 131 => 1
  | 132 => 1
  | 133 => 1
  | 134 => 1
  | 135 => 1
  | 136 => 1
  | 137 => 1
  | 138 => 1
  | 139 => 1
  | 140 => 1
  | 141 => 1
  | 142 => 1
  | 143 => 1
  | 144 => 1
  | 145 => 1
  | 146 => 1
  | 147 => 1
  | 148 => 1
  | 149 => 1
  | 150 => 1
  | 151 => 1
  | 152 => 1
  | 153 => 0
  | 154 => 1
  | 155 => 1
  | 156 => 1
  | 157 => 1
  | 158 => 1
  | 159 => 1
  | 160 => 1
  | 161 => 1
  | 162 => 1
  | 163 => 1
  | 164 => 1
  | 165 => 1
  | 166 => 1
  | 167 => 1
  | 168 => 1
  | 169 => 1
  | 170 => 1
  | 171 => 1
  | 172 => 1
  | 173 => 1
  | 174 => 1
  | 175 => 1
  | 176 => 1
  | 177 => 1
  | 178 => 1
  | 179 => 1
  | 180 => 1
  | 181 => 1
  | 182 => 1
  | 183 => 1
  | 184 => 1
  | 185 => 1
  | 186 => 1
  | 187 => 1
  | 188 => 1
  | 189 => 1
  | 190 => 1
  | 191 => 1
  | 192 => 1
  | 193 => 1
  | 194 => 1
  | 195 => 0
  | 196 => 0
  | 197 => 0
  | 198 => 0
  | 199 => 0
  | 200 => 0
  | 201 => 0
  | 202 => 0
  | 203 => 0
  | 204 => 0
  | 205 => 0
  | 206 => 0
  | 207 => 0
  | 208 => 0
  | 209 => 0
  | 210 => 0
  | 211 => 0
  | 212 => 0
  | 213 => 0
  | 214 => 0
  | 215 => 0
  | 216 => 0
  | 217 => 0
  | 218 => 0
  | 219 => 0
  | 220 => 0
  | 221 => 0
  | 222 => 0
  | 223 => 0
  | 224 => 0
  | 225 => 0
  | 226 => 0
  | 227 => 0
  | 228 => 1
  | 229 => 1
  | 230 => 1
  | 231 => 0
  | _ => 9
def am_zw (z : Nat) (q : Nat × Nat × Nat) : Bool := am_at q.1 (am_cw z) && (match am_ks z with
  | 0 => am_at q.2.1 (.static (am_y z))
  | 1 => am_at q.2.1 (.instanceMethod (am_y z)) && am_at q.2.2 (.selects (am_cR (am_own z)) (am_y z) (am_y z))
  | 2 => am_at q.2.1 (.instanceMethod (am_y z)) && decide ((am_y z).name = "<init>")
  | _ => false)
  && decide ((am_y z).cls = am_cR (am_own z)) && decide ((am_y z).cls ≠ "java/lang/invoke/MethodHandle") && decide ((am_y z).cls ≠ "java/lang/invoke/VarHandle") && decide ((parseMethodDescriptor (am_y z).desc).map (fun d => d.parameters.length) = some (am_na z)) && plainName (am_y z).cls && decide (am_own z < 11) && (am_ini z == (am_ks z == 2)) && decide (am_mL z ≤ 12) && decide (am_na z + (if am_ks z = 0 then 0 else 1) ≤ am_mL z)
  && (match am_rt z, am_ret z with
  | 0, none => true
  | 1, some .int => true
  | 2, some .boolean => true
  | 3, some .char => true
  | 4, some .float => true
  | 5, some .double => true
  | 6, some (.object _) => true
  | _, _ => false)
/-- the methods that are called: all but the law -/
abbrev am_zk (z : Nat) : Prop := z < 232 ∧ z ≠ 227
theorem am_zw0 : am_zw 0 (290, 289, 0) = true := by decide +kernel
theorem am_zw1 : am_zw 1 (420, 418, 419) = true := by decide +kernel
theorem am_zw2 : am_zw 2 (313, 312, 0) = true := by decide +kernel
theorem am_zw3 : am_zw 3 (943, 941, 942) = true := by decide +kernel
theorem am_zw4 : am_zw 4 (954, 952, 953) = true := by decide +kernel
theorem am_zw5 : am_zw 5 (958, 956, 957) = true := by decide +kernel
theorem am_zw6 : am_zw 6 (966, 964, 965) = true := by decide +kernel
theorem am_zw7 : am_zw 7 (983, 981, 982) = true := by decide +kernel
theorem am_zw8 : am_zw 8 (991, 989, 990) = true := by decide +kernel
theorem am_zw9 : am_zw 9 (995, 993, 994) = true := by decide +kernel
theorem am_zw10 : am_zw 10 (962, 960, 961) = true := by decide +kernel
theorem am_zw11 : am_zw 11 (974, 972, 973) = true := by decide +kernel
theorem am_zw12 : am_zw 12 (970, 968, 969) = true := by decide +kernel
theorem am_zw13 : am_zw 13 (987, 985, 986) = true := by decide +kernel
theorem am_zw14 : am_zw 14 (978, 976, 977) = true := by decide +kernel
theorem am_zw15 : am_zw 15 (98, 97, 0) = true := by decide +kernel
theorem am_zw16 : am_zw 16 (447, 445, 446) = true := by decide +kernel
theorem am_zw17 : am_zw 17 (399, 397, 398) = true := by decide +kernel
theorem am_zw18 : am_zw 18 (530, 528, 529) = true := by decide +kernel
theorem am_zw19 : am_zw 19 (498, 496, 497) = true := by decide +kernel
theorem am_zw20 : am_zw 20 (510, 508, 509) = true := by decide +kernel
theorem am_zw21 : am_zw 21 (252, 251, 0) = true := by decide +kernel
theorem am_zw22 : am_zw 22 (428, 426, 427) = true := by decide +kernel
theorem am_zw23 : am_zw 23 (650, 648, 649) = true := by decide +kernel
theorem am_zw24 : am_zw 24 (1092, 1090, 1091) = true := by decide +kernel
theorem am_zw25 : am_zw 25 (157, 156, 0) = true := by decide +kernel
theorem am_zw26 : am_zw 26 (490, 488, 489) = true := by decide +kernel
theorem am_zw27 : am_zw 27 (407, 405, 406) = true := by decide +kernel
theorem am_zw28 : am_zw 28 (494, 492, 493) = true := by decide +kernel
theorem am_zw29 : am_zw 29 (563, 561, 562) = true := by decide +kernel
theorem am_zw30 : am_zw 30 (550, 548, 549) = true := by decide +kernel
theorem am_zw31 : am_zw 31 (534, 532, 533) = true := by decide +kernel
theorem am_zw32 : am_zw 32 (383, 381, 382) = true := by decide +kernel
theorem am_zw33 : am_zw 33 (87, 86, 0) = true := by decide +kernel
theorem am_zw34 : am_zw 34 (395, 393, 394) = true := by decide +kernel
theorem am_zw35 : am_zw 35 (462, 460, 461) = true := by decide +kernel
theorem am_zw36 : am_zw 36 (473, 471, 472) = true := by decide +kernel
theorem am_zw37 : am_zw 37 (506, 504, 505) = true := by decide +kernel
theorem am_zw38 : am_zw 38 (522, 520, 521) = true := by decide +kernel
theorem am_zw39 : am_zw 39 (432, 430, 431) = true := by decide +kernel
theorem am_zw40 : am_zw 40 (436, 434, 435) = true := by decide +kernel
theorem am_zw41 : am_zw 41 (451, 449, 450) = true := by decide +kernel
theorem am_zw42 : am_zw 42 (458, 456, 457) = true := by decide +kernel
theorem am_zw43 : am_zw 43 (469, 467, 468) = true := by decide +kernel
theorem am_zw44 : am_zw 44 (477, 475, 476) = true := by decide +kernel
theorem am_zw45 : am_zw 45 (481, 479, 480) = true := by decide +kernel
theorem am_zw46 : am_zw 46 (485, 483, 484) = true := by decide +kernel
theorem am_zw47 : am_zw 47 (502, 500, 501) = true := by decide +kernel
theorem am_zw48 : am_zw 48 (514, 512, 513) = true := by decide +kernel
theorem am_zw49 : am_zw 49 (518, 516, 517) = true := by decide +kernel
theorem am_zw50 : am_zw 50 (546, 544, 545) = true := by decide +kernel
theorem am_zw51 : am_zw 51 (567, 565, 566) = true := by decide +kernel
theorem am_zw52 : am_zw 52 (571, 569, 570) = true := by decide +kernel
theorem am_zw53 : am_zw 53 (575, 573, 574) = true := by decide +kernel
theorem am_zw54 : am_zw 54 (542, 540, 541) = true := by decide +kernel
theorem am_zw55 : am_zw 55 (538, 536, 537) = true := by decide +kernel
theorem am_zw56 : am_zw 56 (911, 909, 910) = true := by decide +kernel
theorem am_zw57 : am_zw 57 (915, 913, 914) = true := by decide +kernel
theorem am_zw58 : am_zw 58 (1069, 1067, 1068) = true := by decide +kernel
theorem am_zw59 : am_zw 59 (1073, 1071, 1072) = true := by decide +kernel
theorem am_zw60 : am_zw 60 (1077, 1075, 1076) = true := by decide +kernel
theorem am_zw61 : am_zw 61 (1081, 1079, 1080) = true := by decide +kernel
theorem am_zw62 : am_zw 62 (272, 271, 0) = true := by decide +kernel
theorem am_zw63 : am_zw 63 (443, 441, 442) = true := by decide +kernel
theorem am_zw64 : am_zw 64 (143, 142, 0) = true := by decide +kernel
theorem am_zw65 : am_zw 65 (79, 78, 0) = true := by decide +kernel
theorem am_zw66 : am_zw 66 (416, 414, 415) = true := by decide +kernel
theorem am_zw67 : am_zw 67 (657, 655, 656) = true := by decide +kernel
theorem am_zw68 : am_zw 68 (664, 662, 663) = true := by decide +kernel
theorem am_zw69 : am_zw 69 (671, 669, 670) = true := by decide +kernel
theorem am_zw70 : am_zw 70 (678, 676, 677) = true := by decide +kernel
theorem am_zw71 : am_zw 71 (685, 683, 684) = true := by decide +kernel
theorem am_zw72 : am_zw 72 (692, 690, 691) = true := by decide +kernel
theorem am_zw73 : am_zw 73 (699, 697, 698) = true := by decide +kernel
theorem am_zw74 : am_zw 74 (424, 423, 0) = true := by decide +kernel
theorem am_zw75 : am_zw 75 (740, 738, 739) = true := by decide +kernel
theorem am_zw76 : am_zw 76 (784, 782, 783) = true := by decide +kernel
theorem am_zw77 : am_zw 77 (796, 794, 795) = true := by decide +kernel
theorem am_zw78 : am_zw 78 (860, 858, 859) = true := by decide +kernel
theorem am_zw79 : am_zw 79 (872, 870, 871) = true := by decide +kernel
theorem am_zw80 : am_zw 80 (880, 878, 879) = true := by decide +kernel
theorem am_zw81 : am_zw 81 (1045, 1043, 1044) = true := by decide +kernel
theorem am_zw82 : am_zw 82 (744, 743, 2) = true := by decide +kernel
theorem am_zw83 : am_zw 83 (788, 787, 3) = true := by decide +kernel
theorem am_zw84 : am_zw 84 (864, 863, 5) = true := by decide +kernel
theorem am_zw85 : am_zw 85 (804, 802, 803) = true := by decide +kernel
theorem am_zw86 : am_zw 86 (816, 814, 815) = true := by decide +kernel
theorem am_zw87 : am_zw 87 (823, 821, 822) = true := by decide +kernel
theorem am_zw88 : am_zw 88 (831, 829, 830) = true := by decide +kernel
theorem am_zw89 : am_zw 89 (853, 851, 852) = true := by decide +kernel
theorem am_zw90 : am_zw 90 (888, 886, 887) = true := by decide +kernel
theorem am_zw91 : am_zw 91 (900, 898, 899) = true := by decide +kernel
theorem am_zw92 : am_zw 92 (892, 891, 6) = true := by decide +kernel
theorem am_zw93 : am_zw 93 (808, 807, 4) = true := by decide +kernel
theorem am_zw94 : am_zw 94 (907, 905, 906) = true := by decide +kernel
theorem am_zw95 : am_zw 95 (375, 373, 374) = true := by decide +kernel
theorem am_zw96 : am_zw 96 (379, 377, 378) = true := by decide +kernel
theorem am_zw97 : am_zw 97 (1057, 1055, 1056) = true := by decide +kernel
theorem am_zw98 : am_zw 98 (924, 922, 923) = true := by decide +kernel
theorem am_zw99 : am_zw 99 (950, 948, 949) = true := by decide +kernel
theorem am_zw100 : am_zw 100 (387, 385, 386) = true := by decide +kernel
theorem am_zw101 : am_zw 101 (1002, 1000, 1001) = true := by decide +kernel
theorem am_zw102 : am_zw 102 (1009, 1007, 1008) = true := by decide +kernel
theorem am_zw103 : am_zw 103 (1013, 1012, 7) = true := by decide +kernel
theorem am_zw104 : am_zw 104 (1017, 1016, 8) = true := by decide +kernel
theorem am_zw105 : am_zw 105 (1024, 1022, 1023) = true := by decide +kernel
theorem am_zw106 : am_zw 106 (1065, 1063, 1064) = true := by decide +kernel
theorem am_zw107 : am_zw 107 (1088, 1086, 1087) = true := by decide +kernel
theorem am_zw108 : am_zw 108 (391, 389, 390) = true := by decide +kernel
theorem am_zw109 : am_zw 109 (1099, 1097, 1098) = true := by decide +kernel
theorem am_zw110 : am_zw 110 (439, 438, 0) = true := by decide +kernel
theorem am_zw111 : am_zw 111 (465, 464, 0) = true := by decide +kernel
theorem am_zw112 : am_zw 112 (578, 577, 0) = true := by decide +kernel
theorem am_zw113 : am_zw 113 (1104, 1103, 0) = true := by decide +kernel
theorem am_zw114 : am_zw 114 (1173, 1171, 1172) = true := by decide +kernel
theorem am_zw115 : am_zw 115 (1200, 1199, 13) = true := by decide +kernel
theorem am_zw116 : am_zw 116 (1184, 1183, 0) = true := by decide +kernel
theorem am_zw117 : am_zw 117 (1181, 1180, 9) = true := by decide +kernel
theorem am_zw118 : am_zw 118 (1447, 1446, 48) = true := by decide +kernel
theorem am_zw119 : am_zw 119 (1383, 1382, 38) = true := by decide +kernel
theorem am_zw120 : am_zw 120 (1387, 1386, 39) = true := by decide +kernel
theorem am_zw121 : am_zw 121 (1196, 1195, 12) = true := by decide +kernel
theorem am_zw122 : am_zw 122 (1188, 1187, 10) = true := by decide +kernel
theorem am_zw123 : am_zw 123 (1220, 1219, 16) = true := by decide +kernel
theorem am_zw124 : am_zw 124 (1192, 1191, 11) = true := by decide +kernel
theorem am_zw125 : am_zw 125 (1216, 1215, 15) = true := by decide +kernel
theorem am_zw126 : am_zw 126 (1232, 1231, 18) = true := by decide +kernel
theorem am_zw127 : am_zw 127 (1273, 1272, 25) = true := by decide +kernel
theorem am_zw128 : am_zw 128 (1248, 1247, 21) = true := by decide +kernel
theorem am_zw129 : am_zw 129 (1277, 1276, 26) = true := by decide +kernel
theorem am_zw130 : am_zw 130 (1261, 1260, 23) = true := by decide +kernel
theorem am_zw131 : am_zw 131 (1236, 1235, 19) = true := by decide +kernel
theorem am_zw132 : am_zw 132 (1177, 1175, 1176) = true := by decide +kernel
theorem am_zw133 : am_zw 133 (1204, 1202, 1203) = true := by decide +kernel
theorem am_zw134 : am_zw 134 (1212, 1211, 14) = true := by decide +kernel
theorem am_zw135 : am_zw 135 (1208, 1206, 1207) = true := by decide +kernel
theorem am_zw136 : am_zw 136 (1228, 1227, 17) = true := by decide +kernel
theorem am_zw137 : am_zw 137 (1224, 1222, 1223) = true := by decide +kernel
theorem am_zw138 : am_zw 138 (1244, 1243, 20) = true := by decide +kernel
theorem am_zw139 : am_zw 139 (1240, 1238, 1239) = true := by decide +kernel
theorem am_zw140 : am_zw 140 (1256, 1255, 22) = true := by decide +kernel
theorem am_zw141 : am_zw 141 (1252, 1250, 1251) = true := by decide +kernel
theorem am_zw142 : am_zw 142 (1269, 1268, 24) = true := by decide +kernel
theorem am_zw143 : am_zw 143 (1265, 1263, 1264) = true := by decide +kernel
theorem am_zw144 : am_zw 144 (1293, 1292, 29) = true := by decide +kernel
theorem am_zw145 : am_zw 145 (1301, 1300, 31) = true := by decide +kernel
theorem am_zw146 : am_zw 146 (1297, 1296, 30) = true := by decide +kernel
theorem am_zw147 : am_zw 147 (1317, 1316, 35) = true := by decide +kernel
theorem am_zw148 : am_zw 148 (1313, 1312, 34) = true := by decide +kernel
theorem am_zw149 : am_zw 149 (1343, 1342, 36) = true := by decide +kernel
theorem am_zw150 : am_zw 150 (1305, 1304, 32) = true := by decide +kernel
theorem am_zw151 : am_zw 151 (1309, 1308, 33) = true := by decide +kernel
theorem am_zw152 : am_zw 152 (1289, 1288, 28) = true := by decide +kernel
theorem am_zw153 : am_zw 153 (1323, 1322, 0) = true := by decide +kernel
theorem am_zw154 : am_zw 154 (1285, 1284, 27) = true := by decide +kernel
theorem am_zw155 : am_zw 155 (1281, 1279, 1280) = true := by decide +kernel
theorem am_zw156 : am_zw 156 (1483, 1482, 50) = true := by decide +kernel
theorem am_zw157 : am_zw 157 (1327, 1325, 1326) = true := by decide +kernel
theorem am_zw158 : am_zw 158 (1331, 1329, 1330) = true := by decide +kernel
theorem am_zw159 : am_zw 159 (1335, 1333, 1334) = true := by decide +kernel
theorem am_zw160 : am_zw 160 (1339, 1337, 1338) = true := by decide +kernel
theorem am_zw161 : am_zw 161 (1347, 1345, 1346) = true := by decide +kernel
theorem am_zw162 : am_zw 162 (1351, 1349, 1350) = true := by decide +kernel
theorem am_zw163 : am_zw 163 (1355, 1353, 1354) = true := by decide +kernel
theorem am_zw164 : am_zw 164 (1359, 1357, 1358) = true := by decide +kernel
theorem am_zw165 : am_zw 165 (1363, 1361, 1362) = true := by decide +kernel
theorem am_zw166 : am_zw 166 (1367, 1365, 1366) = true := by decide +kernel
theorem am_zw167 : am_zw 167 (1371, 1369, 1370) = true := by decide +kernel
theorem am_zw168 : am_zw 168 (1379, 1378, 37) = true := by decide +kernel
theorem am_zw169 : am_zw 169 (1375, 1373, 1374) = true := by decide +kernel
theorem am_zw170 : am_zw 170 (1391, 1389, 1390) = true := by decide +kernel
theorem am_zw171 : am_zw 171 (1399, 1398, 40) = true := by decide +kernel
theorem am_zw172 : am_zw 172 (1395, 1393, 1394) = true := by decide +kernel
theorem am_zw173 : am_zw 173 (1403, 1401, 1402) = true := by decide +kernel
theorem am_zw174 : am_zw 174 (1411, 1410, 41) = true := by decide +kernel
theorem am_zw175 : am_zw 175 (1407, 1405, 1406) = true := by decide +kernel
theorem am_zw176 : am_zw 176 (1415, 1413, 1414) = true := by decide +kernel
theorem am_zw177 : am_zw 177 (1435, 1434, 45) = true := by decide +kernel
theorem am_zw178 : am_zw 178 (1431, 1430, 44) = true := by decide +kernel
theorem am_zw179 : am_zw 179 (1427, 1426, 43) = true := by decide +kernel
theorem am_zw180 : am_zw 180 (1439, 1438, 46) = true := by decide +kernel
theorem am_zw181 : am_zw 181 (1423, 1422, 42) = true := by decide +kernel
theorem am_zw182 : am_zw 182 (1443, 1442, 47) = true := by decide +kernel
theorem am_zw183 : am_zw 183 (1419, 1417, 1418) = true := by decide +kernel
theorem am_zw184 : am_zw 184 (1451, 1449, 1450) = true := by decide +kernel
theorem am_zw185 : am_zw 185 (1455, 1453, 1454) = true := by decide +kernel
theorem am_zw186 : am_zw 186 (1463, 1462, 49) = true := by decide +kernel
theorem am_zw187 : am_zw 187 (1459, 1457, 1458) = true := by decide +kernel
theorem am_zw188 : am_zw 188 (1467, 1465, 1466) = true := by decide +kernel
theorem am_zw189 : am_zw 189 (1471, 1469, 1470) = true := by decide +kernel
theorem am_zw190 : am_zw 190 (1475, 1473, 1474) = true := by decide +kernel
theorem am_zw191 : am_zw 191 (1479, 1477, 1478) = true := by decide +kernel
theorem am_zw192 : am_zw 192 (1487, 1485, 1486) = true := by decide +kernel
theorem am_zw193 : am_zw 193 (1491, 1489, 1490) = true := by decide +kernel
theorem am_zw194 : am_zw 194 (1495, 1493, 1494) = true := by decide +kernel
theorem am_zw195 : am_zw 195 (411, 410, 0) = true := by decide +kernel
theorem am_zw196 : am_zw 196 (653, 652, 0) = true := by decide +kernel
theorem am_zw197 : am_zw 197 (660, 659, 0) = true := by decide +kernel
theorem am_zw198 : am_zw 198 (667, 666, 0) = true := by decide +kernel
theorem am_zw199 : am_zw 199 (674, 673, 0) = true := by decide +kernel
theorem am_zw200 : am_zw 200 (681, 680, 0) = true := by decide +kernel
theorem am_zw201 : am_zw 201 (688, 687, 0) = true := by decide +kernel
theorem am_zw202 : am_zw 202 (695, 694, 0) = true := by decide +kernel
theorem am_zw203 : am_zw 203 (702, 701, 0) = true := by decide +kernel
theorem am_zw204 : am_zw 204 (780, 779, 0) = true := by decide +kernel
theorem am_zw205 : am_zw 205 (792, 791, 0) = true := by decide +kernel
theorem am_zw206 : am_zw 206 (800, 799, 0) = true := by decide +kernel
theorem am_zw207 : am_zw 207 (812, 811, 0) = true := by decide +kernel
theorem am_zw208 : am_zw 208 (819, 818, 0) = true := by decide +kernel
theorem am_zw209 : am_zw 209 (826, 825, 0) = true := by decide +kernel
theorem am_zw210 : am_zw 210 (849, 848, 0) = true := by decide +kernel
theorem am_zw211 : am_zw 211 (856, 855, 0) = true := by decide +kernel
theorem am_zw212 : am_zw 212 (868, 867, 0) = true := by decide +kernel
theorem am_zw213 : am_zw 213 (876, 875, 0) = true := by decide +kernel
theorem am_zw214 : am_zw 214 (884, 883, 0) = true := by decide +kernel
theorem am_zw215 : am_zw 215 (896, 895, 0) = true := by decide +kernel
theorem am_zw216 : am_zw 216 (903, 902, 0) = true := by decide +kernel
theorem am_zw217 : am_zw 217 (919, 918, 0) = true := by decide +kernel
theorem am_zw218 : am_zw 218 (946, 945, 0) = true := by decide +kernel
theorem am_zw219 : am_zw 219 (998, 997, 0) = true := by decide +kernel
theorem am_zw220 : am_zw 220 (1005, 1004, 0) = true := by decide +kernel
theorem am_zw221 : am_zw 221 (1020, 1019, 0) = true := by decide +kernel
theorem am_zw222 : am_zw 222 (1027, 1026, 0) = true := by decide +kernel
theorem am_zw223 : am_zw 223 (1053, 1052, 0) = true := by decide +kernel
theorem am_zw224 : am_zw 224 (1061, 1060, 0) = true := by decide +kernel
theorem am_zw225 : am_zw 225 (1084, 1083, 0) = true := by decide +kernel
theorem am_zw226 : am_zw 226 (1095, 1094, 0) = true := by decide +kernel
theorem am_zw228 : am_zw 228 (526, 524, 525) = true := by decide +kernel
theorem am_zw229 : am_zw 229 (558, 556, 557) = true := by decide +kernel
theorem am_zw230 : am_zw 230 (554, 552, 553) = true := by decide +kernel
theorem am_zw231 : am_zw 231 (454, 453, 0) = true := by decide +kernel
theorem am_zw_ok : ∀ z, am_zk z → ∃ q, am_zw z q = true := fun z h => match z, h with
  | 0, _ => ⟨_, am_zw0⟩
  | 1, _ => ⟨_, am_zw1⟩
  | 2, _ => ⟨_, am_zw2⟩
  | 3, _ => ⟨_, am_zw3⟩
  | 4, _ => ⟨_, am_zw4⟩
  | 5, _ => ⟨_, am_zw5⟩
  | 6, _ => ⟨_, am_zw6⟩
  | 7, _ => ⟨_, am_zw7⟩
  | 8, _ => ⟨_, am_zw8⟩
  | 9, _ => ⟨_, am_zw9⟩
  | 10, _ => ⟨_, am_zw10⟩
  | 11, _ => ⟨_, am_zw11⟩
  | 12, _ => ⟨_, am_zw12⟩
  | 13, _ => ⟨_, am_zw13⟩
  | 14, _ => ⟨_, am_zw14⟩
  | 15, _ => ⟨_, am_zw15⟩
  | 16, _ => ⟨_, am_zw16⟩
  | 17, _ => ⟨_, am_zw17⟩
  | 18, _ => ⟨_, am_zw18⟩
  | 19, _ => ⟨_, am_zw19⟩
  | 20, _ => ⟨_, am_zw20⟩
  | 21, _ => ⟨_, am_zw21⟩
  | 22, _ => ⟨_, am_zw22⟩
  | 23, _ => ⟨_, am_zw23⟩
  | 24, _ => ⟨_, am_zw24⟩
  | 25, _ => ⟨_, am_zw25⟩
  | 26, _ => ⟨_, am_zw26⟩
  | 27, _ => ⟨_, am_zw27⟩
  | 28, _ => ⟨_, am_zw28⟩
  | 29, _ => ⟨_, am_zw29⟩
  | 30, _ => ⟨_, am_zw30⟩
  | 31, _ => ⟨_, am_zw31⟩
  | 32, _ => ⟨_, am_zw32⟩
  | 33, _ => ⟨_, am_zw33⟩
  | 34, _ => ⟨_, am_zw34⟩
  | 35, _ => ⟨_, am_zw35⟩
  | 36, _ => ⟨_, am_zw36⟩
  | 37, _ => ⟨_, am_zw37⟩
  | 38, _ => ⟨_, am_zw38⟩
  | 39, _ => ⟨_, am_zw39⟩
  | 40, _ => ⟨_, am_zw40⟩
  | 41, _ => ⟨_, am_zw41⟩
  | 42, _ => ⟨_, am_zw42⟩
  | 43, _ => ⟨_, am_zw43⟩
  | 44, _ => ⟨_, am_zw44⟩
  | 45, _ => ⟨_, am_zw45⟩
  | 46, _ => ⟨_, am_zw46⟩
  | 47, _ => ⟨_, am_zw47⟩
  | 48, _ => ⟨_, am_zw48⟩
  | 49, _ => ⟨_, am_zw49⟩
  | 50, _ => ⟨_, am_zw50⟩
  | 51, _ => ⟨_, am_zw51⟩
  | 52, _ => ⟨_, am_zw52⟩
  | 53, _ => ⟨_, am_zw53⟩
  | 54, _ => ⟨_, am_zw54⟩
  | 55, _ => ⟨_, am_zw55⟩
  | 56, _ => ⟨_, am_zw56⟩
  | 57, _ => ⟨_, am_zw57⟩
  | 58, _ => ⟨_, am_zw58⟩
  | 59, _ => ⟨_, am_zw59⟩
  | 60, _ => ⟨_, am_zw60⟩
  | 61, _ => ⟨_, am_zw61⟩
  | 62, _ => ⟨_, am_zw62⟩
  | 63, _ => ⟨_, am_zw63⟩
  | 64, _ => ⟨_, am_zw64⟩
  | 65, _ => ⟨_, am_zw65⟩
  | 66, _ => ⟨_, am_zw66⟩
  | 67, _ => ⟨_, am_zw67⟩
  | 68, _ => ⟨_, am_zw68⟩
  | 69, _ => ⟨_, am_zw69⟩
  | 70, _ => ⟨_, am_zw70⟩
  | 71, _ => ⟨_, am_zw71⟩
  | 72, _ => ⟨_, am_zw72⟩
  | 73, _ => ⟨_, am_zw73⟩
  | 74, _ => ⟨_, am_zw74⟩
  | 75, _ => ⟨_, am_zw75⟩
  | 76, _ => ⟨_, am_zw76⟩
  | 77, _ => ⟨_, am_zw77⟩
  | 78, _ => ⟨_, am_zw78⟩
  | 79, _ => ⟨_, am_zw79⟩
  | 80, _ => ⟨_, am_zw80⟩
  | 81, _ => ⟨_, am_zw81⟩
  | 82, _ => ⟨_, am_zw82⟩
  | 83, _ => ⟨_, am_zw83⟩
  | 84, _ => ⟨_, am_zw84⟩
  | 85, _ => ⟨_, am_zw85⟩
  | 86, _ => ⟨_, am_zw86⟩
  | 87, _ => ⟨_, am_zw87⟩
  | 88, _ => ⟨_, am_zw88⟩
  | 89, _ => ⟨_, am_zw89⟩
  | 90, _ => ⟨_, am_zw90⟩
  | 91, _ => ⟨_, am_zw91⟩
  | 92, _ => ⟨_, am_zw92⟩
  | 93, _ => ⟨_, am_zw93⟩
  | 94, _ => ⟨_, am_zw94⟩
  | 95, _ => ⟨_, am_zw95⟩
  | 96, _ => ⟨_, am_zw96⟩
  | 97, _ => ⟨_, am_zw97⟩
  | 98, _ => ⟨_, am_zw98⟩
  | 99, _ => ⟨_, am_zw99⟩
  | 100, _ => ⟨_, am_zw100⟩
  | 101, _ => ⟨_, am_zw101⟩
  | 102, _ => ⟨_, am_zw102⟩
  | 103, _ => ⟨_, am_zw103⟩
  | 104, _ => ⟨_, am_zw104⟩
  | 105, _ => ⟨_, am_zw105⟩
  | 106, _ => ⟨_, am_zw106⟩
  | 107, _ => ⟨_, am_zw107⟩
  | 108, _ => ⟨_, am_zw108⟩
  | 109, _ => ⟨_, am_zw109⟩
  | 110, _ => ⟨_, am_zw110⟩
  | 111, _ => ⟨_, am_zw111⟩
  | 112, _ => ⟨_, am_zw112⟩
  | 113, _ => ⟨_, am_zw113⟩
  | 114, _ => ⟨_, am_zw114⟩
  | 115, _ => ⟨_, am_zw115⟩
  | 116, _ => ⟨_, am_zw116⟩
  | 117, _ => ⟨_, am_zw117⟩
  | 118, _ => ⟨_, am_zw118⟩
  | 119, _ => ⟨_, am_zw119⟩
  | 120, _ => ⟨_, am_zw120⟩
  | 121, _ => ⟨_, am_zw121⟩
  | 122, _ => ⟨_, am_zw122⟩
  | 123, _ => ⟨_, am_zw123⟩
  | 124, _ => ⟨_, am_zw124⟩
  | 125, _ => ⟨_, am_zw125⟩
  | 126, _ => ⟨_, am_zw126⟩
  | 127, _ => ⟨_, am_zw127⟩
  | 128, _ => ⟨_, am_zw128⟩
  | 129, _ => ⟨_, am_zw129⟩
  | 130, _ => ⟨_, am_zw130⟩
  | 131, _ => ⟨_, am_zw131⟩
  | 132, _ => ⟨_, am_zw132⟩
  | 133, _ => ⟨_, am_zw133⟩
  | 134, _ => ⟨_, am_zw134⟩
  | 135, _ => ⟨_, am_zw135⟩
  | 136, _ => ⟨_, am_zw136⟩
  | 137, _ => ⟨_, am_zw137⟩
  | 138, _ => ⟨_, am_zw138⟩
  | 139, _ => ⟨_, am_zw139⟩
  | 140, _ => ⟨_, am_zw140⟩
  | 141, _ => ⟨_, am_zw141⟩
  | 142, _ => ⟨_, am_zw142⟩
  | 143, _ => ⟨_, am_zw143⟩
  | 144, _ => ⟨_, am_zw144⟩
  | 145, _ => ⟨_, am_zw145⟩
  | 146, _ => ⟨_, am_zw146⟩
  | 147, _ => ⟨_, am_zw147⟩
  | 148, _ => ⟨_, am_zw148⟩
  | 149, _ => ⟨_, am_zw149⟩
  | 150, _ => ⟨_, am_zw150⟩
  | 151, _ => ⟨_, am_zw151⟩
  | 152, _ => ⟨_, am_zw152⟩
  | 153, _ => ⟨_, am_zw153⟩
  | 154, _ => ⟨_, am_zw154⟩
  | 155, _ => ⟨_, am_zw155⟩
  | 156, _ => ⟨_, am_zw156⟩
  | 157, _ => ⟨_, am_zw157⟩
  | 158, _ => ⟨_, am_zw158⟩
  | 159, _ => ⟨_, am_zw159⟩
  | 160, _ => ⟨_, am_zw160⟩
  | 161, _ => ⟨_, am_zw161⟩
  | 162, _ => ⟨_, am_zw162⟩
  | 163, _ => ⟨_, am_zw163⟩
  | 164, _ => ⟨_, am_zw164⟩
  | 165, _ => ⟨_, am_zw165⟩
  | 166, _ => ⟨_, am_zw166⟩
  | 167, _ => ⟨_, am_zw167⟩
  | 168, _ => ⟨_, am_zw168⟩
  | 169, _ => ⟨_, am_zw169⟩
  | 170, _ => ⟨_, am_zw170⟩
  | 171, _ => ⟨_, am_zw171⟩
  | 172, _ => ⟨_, am_zw172⟩
  | 173, _ => ⟨_, am_zw173⟩
  | 174, _ => ⟨_, am_zw174⟩
  | 175, _ => ⟨_, am_zw175⟩
  | 176, _ => ⟨_, am_zw176⟩
  | 177, _ => ⟨_, am_zw177⟩
  | 178, _ => ⟨_, am_zw178⟩
  | 179, _ => ⟨_, am_zw179⟩
  | 180, _ => ⟨_, am_zw180⟩
  | 181, _ => ⟨_, am_zw181⟩
  | 182, _ => ⟨_, am_zw182⟩
  | 183, _ => ⟨_, am_zw183⟩
  | 184, _ => ⟨_, am_zw184⟩
  | 185, _ => ⟨_, am_zw185⟩
  | 186, _ => ⟨_, am_zw186⟩
  | 187, _ => ⟨_, am_zw187⟩
  | 188, _ => ⟨_, am_zw188⟩
  | 189, _ => ⟨_, am_zw189⟩
  | 190, _ => ⟨_, am_zw190⟩
  | 191, _ => ⟨_, am_zw191⟩
  | 192, _ => ⟨_, am_zw192⟩
  | 193, _ => ⟨_, am_zw193⟩
  | 194, _ => ⟨_, am_zw194⟩
  | 195, _ => ⟨_, am_zw195⟩
  | 196, _ => ⟨_, am_zw196⟩
  | 197, _ => ⟨_, am_zw197⟩
  | 198, _ => ⟨_, am_zw198⟩
  | 199, _ => ⟨_, am_zw199⟩
  | 200, _ => ⟨_, am_zw200⟩
  | 201, _ => ⟨_, am_zw201⟩
  | 202, _ => ⟨_, am_zw202⟩
  | 203, _ => ⟨_, am_zw203⟩
  | 204, _ => ⟨_, am_zw204⟩
  | 205, _ => ⟨_, am_zw205⟩
  | 206, _ => ⟨_, am_zw206⟩
  | 207, _ => ⟨_, am_zw207⟩
  | 208, _ => ⟨_, am_zw208⟩
  | 209, _ => ⟨_, am_zw209⟩
  | 210, _ => ⟨_, am_zw210⟩
  | 211, _ => ⟨_, am_zw211⟩
  | 212, _ => ⟨_, am_zw212⟩
  | 213, _ => ⟨_, am_zw213⟩
  | 214, _ => ⟨_, am_zw214⟩
  | 215, _ => ⟨_, am_zw215⟩
  | 216, _ => ⟨_, am_zw216⟩
  | 217, _ => ⟨_, am_zw217⟩
  | 218, _ => ⟨_, am_zw218⟩
  | 219, _ => ⟨_, am_zw219⟩
  | 220, _ => ⟨_, am_zw220⟩
  | 221, _ => ⟨_, am_zw221⟩
  | 222, _ => ⟨_, am_zw222⟩
  | 223, _ => ⟨_, am_zw223⟩
  | 224, _ => ⟨_, am_zw224⟩
  | 225, _ => ⟨_, am_zw225⟩
  | 226, _ => ⟨_, am_zw226⟩
  | 227, h => absurd rfl h.2
  | 228, _ => ⟨_, am_zw228⟩
  | 229, _ => ⟨_, am_zw229⟩
  | 230, _ => ⟨_, am_zw230⟩
  | 231, _ => ⟨_, am_zw231⟩
  | n + 232, h => absurd h.1 (by omega)
