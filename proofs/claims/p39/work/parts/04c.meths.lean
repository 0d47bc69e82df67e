def am_cw (z : Nat) : Cond := if am_tr z = true then .code (am_y z) (am_by z) (am_mL z) (am_ret z) else .codeWith (am_y z) (am_by z) (am_mL z) (am_ret z) (am_hh z)
/-- 0 static, 1 by its class, 2 a constructor -/
def am_ks : Nat → Nat := fun k => match k with
  | 0 => 2
  | 1 => 1
  | 2 => 2
  | 3 => 1
  | 4 => 1
  | 5 => 1
  | 6 => 1
  | 7 => 1
  | 8 => 1
  | 9 => 1
  | 10 => 1
  | 11 => 1
  | 12 => 1
  | 13 => 1
  | 14 => 1
  | 15 => 2
  | 16 => 1
  | 17 => 1
  | 18 => 1
  | 19 => 1
  | 20 => 1
  | 21 => 2
  | 22 => 1
  | 23 => 1
  | 24 => 1
  | 25 => 2
  | 26 => 1
  | 27 => 1
  | 28 => 1
  | 29 => 1
  | 30 => 1
  | 31 => 1
  | 32 => 1
  | 33 => 2
  | 34 => 1
  | 35 => 1
  | 36 => 1
  | 37 => 1
  | 38 => 1
  | 39 => 1
  | 40 => 1
  | 41 => 1
  | 42 => 1
  | 43 => 1
  | 44 => 1
  | 45 => 1
  | 46 => 1
  | 47 => 1
  | 48 => 1
  | 49 => 1
  | 50 => 1
  | 51 => 1
  | 52 => 1
  | 53 => 1
  | 54 => 1
  | 55 => 1
  | 56 => 1
  | 57 => 1
  | 58 => 1
  | 59 => 1
  | 60 => 1
  | 61 => 1
  | 62 => 2
  | 63 => 1
  | 64 => 2
  | 65 => 2
  | 66 => 1
  | 67 => 1
  | 68 => 1
  | 69 => 1
  | 70 => 1
  | 71 => 1
  | 72 => 1
  | 73 => 1
  | 74 => 1
  | 75 => 1
  | 76 => 1
  | 77 => 1
  | 78 => 1
  | 79 => 1
  | 80 => 1
  | 81 => 1
  | 82 => 1
  | 83 => 1
  | 84 => 1
  | 85 => 1
  | 86 => 1
  | 87 => 1
  | 88 => 1
  | 89 => 1
  | 90 => 1
  | 91 => 1
  | 92 => 1
  | 93 => 1
  | 94 => 1
  | 95 => 1
  | 96 => 1
  | 97 => 1
  | 98 => 1
  | 99 => 1
  | 100 => 1
  | 101 => 1
  | 102 => 1
  | 103 => 1
  | 104 => 1
  | 105 => 1
  | 106 => 1
  | 107 => 1
  | 108 => 1
  | 109 => 1
  | 110 => 0
  | 111 => 0
  | 112 => 0
  | 113 => 0
  | 114 => 0
  | 115 => 0
  | 116 => 0
  | 117 => 0
  | 118 => 0
  | 119 => 0
  | 120 => 0
  | 121 => 0
  | 122 => 0
  | 123 => 0
  | 124 => 0
  | 125 => 0
  | 126 => 0
  | 127 => 0
  | 128 => 0
  | 129 => 0
  | 130 => 0
  | 131 => 0
  | 132 => 0
  | 133 => 0
  | 134 => 0
  | 135 => 0
  | 136 => 0
  | 137 => 0
  | 138 => 0
  | 139 => 0
  | 140 => 0
  | 141 => 0
  | 142 => 0
  | 143 => 0
  | 144 => 0
  | 145 => 0
  | 146 => 0
  | 147 => 0
  | 148 => 0
  | 149 => 0
  | 150 => 0
  | 151 => 0
  | 152 => 0
  | 153 => 0
  | 154 => 0
  | 155 => 2
  | 156 => 2
  | 157 => 2
  | 158 => 2
  | 159 => 2
  | 160 => 2
  | 161 => 2
  | 162 => 2
  | 163 => 2
  | 164 => 2
  | 165 => 2
  | 166 => 2
  | 167 => 2
  | 168 => 2
  | 169 => 2
  | 170 => 2
  | 171 => 2
  | 172 => 2
  | 173 => 2
  | 174 => 2
  | 175 => 2
  | 176 => 2
  | 177 => 2
  | 178 => 2
  | 179 => 2
  | 180 => 2
  | 181 => 2
  | 182 => 2
  | 183 => 2
  | 184 => 2
  | 185 => 2
  | 186 => 2
  | 187 => 2
  | 188 => 2
  | 189 => 2
  | 190 => 2
  | 191 => 2
  | 192 => 2
  | 193 => 2
  | 194 => 2
  | 195 => 2
  | 196 => 2
  | 197 => 2
  | 198 => 2
  | 199 => 2
  | 200 => 2
  | 201 => 2
  | 202 => 2
  | 203 => 2
  | 204 => 2
  | 205 => 2
  | 206 => 2
  | 207 => 2
  | 208 => 2
  | 209 => 2
  | 210 => 2
  | 211 => 2
  | 212 => 2
  | 213 => 2
  | 214 => 2
  | 215 => 2
  | 216 => 2
  | 217 => 2
  | 218 => 2
  | 219 => 2
  | 220 => 2
  | 221 => 2
  | 222 => 2
  | 223 => 2
  | 224 => 2
  | 225 => 2
  | 226 => 2
  | 227 => 0
  | 228 => 1
  | 229 => 1
  | 230 => 1
  | 231 => 0
  | _ => 9
def am_zw (z : Nat) (q : Nat × Nat × Nat) : Bool := am_at q.1 (am_cw z) && (match am_ks z with
  | 0 => am_at q.2.1 (.static (am_y z))
  | 1 => am_at q.2.1 (.instanceMethod (am_y z)) && am_at q.2.2 (.selects (am_cR (am_own z)) (am_y z) (am_y z))
  | 2 => am_at q.2.1 (.instanceMethod (am_y z)) && decide ((am_y z).name = "<init>")
  | _ => false)
  && decide ((am_y z).cls = am_cR (am_own z)) && decide ((am_y z).cls ≠ "java/lang/invoke/MethodHandle") && decide ((am_y z).cls ≠ "java/lang/invoke/VarHandle") && decide ((parseMethodDescriptor (am_y z).desc).map (fun d => d.parameters.length) = some (am_na z)) && plainName (am_y z).cls && decide (am_own z < 11) && (am_ini z == (am_ks z == 2)) && decide (am_mL z ≤ 12) && decide (am_na z + (if am_ks z = 0 then 0 else 1) ≤ am_mL z)
  && (match am_rt z, am_ret z with
  | 0, none => true
  | 1, some .int => true
  | 2, some .boolean => true
  | 3, some .char => true
  | 4, some .float => true
  | 5, some .double => true
  | 6, some (.object _) => true
  | 7, some .long => true
  | _, _ => false)
/-- the methods that are called: all but the law -/
abbrev am_zk (z : Nat) : Prop := z < 232 ∧ z ≠ 227
theorem am_zw0 : am_zw 0 (258, 257, 0) = true := by decide +kernel
theorem am_zw1 : am_zw 1 (386, 384, 385) = true := by decide +kernel
theorem am_zw2 : am_zw 2 (281, 280, 0) = true := by decide +kernel
theorem am_zw3 : am_zw 3 (835, 833, 834) = true := by decide +kernel
theorem am_zw4 : am_zw 4 (846, 844, 845) = true := by decide +kernel
theorem am_zw5 : am_zw 5 (850, 848, 849) = true := by decide +kernel
theorem am_zw6 : am_zw 6 (858, 856, 857) = true := by decide +kernel
theorem am_zw7 : am_zw 7 (875, 873, 874) = true := by decide +kernel
theorem am_zw8 : am_zw 8 (883, 881, 882) = true := by decide +kernel
theorem am_zw9 : am_zw 9 (887, 885, 886) = true := by decide +kernel
theorem am_zw10 : am_zw 10 (854, 852, 853) = true := by decide +kernel
theorem am_zw11 : am_zw 11 (866, 864, 865) = true := by decide +kernel
theorem am_zw12 : am_zw 12 (862, 860, 861) = true := by decide +kernel
theorem am_zw13 : am_zw 13 (879, 877, 878) = true := by decide +kernel
theorem am_zw14 : am_zw 14 (870, 868, 869) = true := by decide +kernel
theorem am_zw15 : am_zw 15 (66, 65, 0) = true := by decide +kernel
theorem am_zw16 : am_zw 16 (413, 411, 412) = true := by decide +kernel
theorem am_zw17 : am_zw 17 (359, 357, 358) = true := by decide +kernel
theorem am_zw18 : am_zw 18 (496, 494, 495) = true := by decide +kernel
theorem am_zw19 : am_zw 19 (464, 462, 463) = true := by decide +kernel
theorem am_zw20 : am_zw 20 (476, 474, 475) = true := by decide +kernel
theorem am_zw21 : am_zw 21 (220, 219, 0) = true := by decide +kernel
theorem am_zw22 : am_zw 22 (394, 392, 393) = true := by decide +kernel
theorem am_zw23 : am_zw 23 (616, 614, 615) = true := by decide +kernel
theorem am_zw24 : am_zw 24 (952, 950, 951) = true := by decide +kernel
theorem am_zw25 : am_zw 25 (125, 124, 0) = true := by decide +kernel
theorem am_zw26 : am_zw 26 (456, 454, 455) = true := by decide +kernel
theorem am_zw27 : am_zw 27 (367, 365, 366) = true := by decide +kernel
theorem am_zw28 : am_zw 28 (460, 458, 459) = true := by decide +kernel
theorem am_zw29 : am_zw 29 (529, 527, 528) = true := by decide +kernel
theorem am_zw30 : am_zw 30 (516, 514, 515) = true := by decide +kernel
theorem am_zw31 : am_zw 31 (500, 498, 499) = true := by decide +kernel
theorem am_zw32 : am_zw 32 (731, 729, 730) = true := by decide +kernel
theorem am_zw33 : am_zw 33 (55, 54, 0) = true := by decide +kernel
theorem am_zw34 : am_zw 34 (355, 353, 354) = true := by decide +kernel
theorem am_zw35 : am_zw 35 (428, 426, 427) = true := by decide +kernel
theorem am_zw36 : am_zw 36 (439, 437, 438) = true := by decide +kernel
theorem am_zw37 : am_zw 37 (472, 470, 471) = true := by decide +kernel
theorem am_zw38 : am_zw 38 (488, 486, 487) = true := by decide +kernel
theorem am_zw39 : am_zw 39 (398, 396, 397) = true := by decide +kernel
theorem am_zw40 : am_zw 40 (402, 400, 401) = true := by decide +kernel
theorem am_zw41 : am_zw 41 (417, 415, 416) = true := by decide +kernel
theorem am_zw42 : am_zw 42 (424, 422, 423) = true := by decide +kernel
theorem am_zw43 : am_zw 43 (435, 433, 434) = true := by decide +kernel
theorem am_zw44 : am_zw 44 (443, 441, 442) = true := by decide +kernel
theorem am_zw45 : am_zw 45 (447, 445, 446) = true := by decide +kernel
theorem am_zw46 : am_zw 46 (451, 449, 450) = true := by decide +kernel
theorem am_zw47 : am_zw 47 (468, 466, 467) = true := by decide +kernel
theorem am_zw48 : am_zw 48 (480, 478, 479) = true := by decide +kernel
theorem am_zw49 : am_zw 49 (484, 482, 483) = true := by decide +kernel
theorem am_zw50 : am_zw 50 (512, 510, 511) = true := by decide +kernel
theorem am_zw51 : am_zw 51 (533, 531, 532) = true := by decide +kernel
theorem am_zw52 : am_zw 52 (537, 535, 536) = true := by decide +kernel
theorem am_zw53 : am_zw 53 (541, 539, 540) = true := by decide +kernel
theorem am_zw54 : am_zw 54 (508, 506, 507) = true := by decide +kernel
theorem am_zw55 : am_zw 55 (504, 502, 503) = true := by decide +kernel
theorem am_zw56 : am_zw 56 (803, 801, 802) = true := by decide +kernel
theorem am_zw57 : am_zw 57 (807, 805, 806) = true := by decide +kernel
theorem am_zw58 : am_zw 58 (929, 927, 928) = true := by decide +kernel
theorem am_zw59 : am_zw 59 (933, 931, 932) = true := by decide +kernel
theorem am_zw60 : am_zw 60 (937, 935, 936) = true := by decide +kernel
theorem am_zw61 : am_zw 61 (941, 939, 940) = true := by decide +kernel
theorem am_zw62 : am_zw 62 (240, 239, 0) = true := by decide +kernel
theorem am_zw63 : am_zw 63 (409, 407, 408) = true := by decide +kernel
theorem am_zw64 : am_zw 64 (111, 110, 0) = true := by decide +kernel
theorem am_zw65 : am_zw 65 (47, 46, 0) = true := by decide +kernel
theorem am_zw66 : am_zw 66 (382, 380, 381) = true := by decide +kernel
theorem am_zw67 : am_zw 67 (623, 621, 622) = true := by decide +kernel
theorem am_zw68 : am_zw 68 (1067, 1065, 1066) = true := by decide +kernel
theorem am_zw69 : am_zw 69 (1060, 1058, 1059) = true := by decide +kernel
theorem am_zw70 : am_zw 70 (1155, 1153, 1154) = true := by decide +kernel
theorem am_zw71 : am_zw 71 (630, 628, 629) = true := by decide +kernel
theorem am_zw72 : am_zw 72 (1162, 1160, 1161) = true := by decide +kernel
theorem am_zw73 : am_zw 73 (637, 635, 636) = true := by decide +kernel
theorem am_zw74 : am_zw 74 (390, 389, 0) = true := by decide +kernel
theorem am_zw75 : am_zw 75 (678, 676, 677) = true := by decide +kernel
theorem am_zw76 : am_zw 76 (1109, 1107, 1108) = true := by decide +kernel
theorem am_zw77 : am_zw 77 (1129, 1127, 1128) = true := by decide +kernel
theorem am_zw78 : am_zw 78 (768, 766, 767) = true := by decide +kernel
theorem am_zw79 : am_zw 79 (966, 964, 965) = true := by decide +kernel
theorem am_zw80 : am_zw 80 (1121, 1119, 1120) = true := by decide +kernel
theorem am_zw81 : am_zw 81 (1091, 1089, 1090) = true := by decide +kernel
theorem am_zw82 : am_zw 82 (682, 681, 2) = true := by decide +kernel
theorem am_zw83 : am_zw 83 (1113, 1112, 8) = true := by decide +kernel
theorem am_zw84 : am_zw 84 (772, 771, 4) = true := by decide +kernel
theorem am_zw85 : am_zw 85 (722, 720, 721) = true := by decide +kernel
theorem am_zw86 : am_zw 86 (1137, 1135, 1136) = true := by decide +kernel
theorem am_zw87 : am_zw 87 (1144, 1142, 1143) = true := by decide +kernel
theorem am_zw88 : am_zw 88 (739, 737, 738) = true := by decide +kernel
theorem am_zw89 : am_zw 89 (761, 759, 760) = true := by decide +kernel
theorem am_zw90 : am_zw 90 (780, 778, 779) = true := by decide +kernel
theorem am_zw91 : am_zw 91 (792, 790, 791) = true := by decide +kernel
theorem am_zw92 : am_zw 92 (784, 783, 5) = true := by decide +kernel
theorem am_zw93 : am_zw 93 (726, 725, 3) = true := by decide +kernel
theorem am_zw94 : am_zw 94 (799, 797, 798) = true := by decide +kernel
theorem am_zw95 : am_zw 95 (343, 341, 342) = true := by decide +kernel
theorem am_zw96 : am_zw 96 (917, 915, 916) = true := by decide +kernel
theorem am_zw97 : am_zw 97 (908, 906, 907) = true := by decide +kernel
theorem am_zw98 : am_zw 98 (816, 814, 815) = true := by decide +kernel
theorem am_zw99 : am_zw 99 (842, 840, 841) = true := by decide +kernel
theorem am_zw100 : am_zw 100 (347, 345, 346) = true := by decide +kernel
theorem am_zw101 : am_zw 101 (977, 975, 976) = true := by decide +kernel
theorem am_zw102 : am_zw 102 (987, 985, 986) = true := by decide +kernel
theorem am_zw103 : am_zw 103 (991, 990, 6) = true := by decide +kernel
theorem am_zw104 : am_zw 104 (995, 994, 7) = true := by decide +kernel
theorem am_zw105 : am_zw 105 (1012, 1010, 1011) = true := by decide +kernel
theorem am_zw106 : am_zw 106 (925, 923, 924) = true := by decide +kernel
theorem am_zw107 : am_zw 107 (948, 946, 947) = true := by decide +kernel
theorem am_zw108 : am_zw 108 (351, 349, 350) = true := by decide +kernel
theorem am_zw109 : am_zw 109 (959, 957, 958) = true := by decide +kernel
theorem am_zw110 : am_zw 110 (405, 404, 0) = true := by decide +kernel
theorem am_zw111 : am_zw 111 (431, 430, 0) = true := by decide +kernel
theorem am_zw112 : am_zw 112 (544, 543, 0) = true := by decide +kernel
theorem am_zw113 : am_zw 113 (371, 370, 0) = true := by decide +kernel
theorem am_zw114 : am_zw 114 (374, 373, 0) = true := by decide +kernel
theorem am_zw115 : am_zw 115 (377, 376, 0) = true := by decide +kernel
theorem am_zw116 : am_zw 116 (619, 618, 0) = true := by decide +kernel
theorem am_zw117 : am_zw 117 (1063, 1062, 0) = true := by decide +kernel
theorem am_zw118 : am_zw 118 (1056, 1055, 0) = true := by decide +kernel
theorem am_zw119 : am_zw 119 (1151, 1150, 0) = true := by decide +kernel
theorem am_zw120 : am_zw 120 (626, 625, 0) = true := by decide +kernel
theorem am_zw121 : am_zw 121 (1158, 1157, 0) = true := by decide +kernel
theorem am_zw122 : am_zw 122 (633, 632, 0) = true := by decide +kernel
theorem am_zw123 : am_zw 123 (640, 639, 0) = true := by decide +kernel
theorem am_zw124 : am_zw 124 (1105, 1104, 0) = true := by decide +kernel
theorem am_zw125 : am_zw 125 (1125, 1124, 0) = true := by decide +kernel
theorem am_zw126 : am_zw 126 (718, 717, 0) = true := by decide +kernel
theorem am_zw127 : am_zw 127 (1133, 1132, 0) = true := by decide +kernel
theorem am_zw128 : am_zw 128 (1140, 1139, 0) = true := by decide +kernel
theorem am_zw129 : am_zw 129 (734, 733, 0) = true := by decide +kernel
theorem am_zw130 : am_zw 130 (757, 756, 0) = true := by decide +kernel
theorem am_zw131 : am_zw 131 (764, 763, 0) = true := by decide +kernel
theorem am_zw132 : am_zw 132 (1117, 1116, 0) = true := by decide +kernel
theorem am_zw133 : am_zw 133 (776, 775, 0) = true := by decide +kernel
theorem am_zw134 : am_zw 134 (788, 787, 0) = true := by decide +kernel
theorem am_zw135 : am_zw 135 (795, 794, 0) = true := by decide +kernel
theorem am_zw136 : am_zw 136 (811, 810, 0) = true := by decide +kernel
theorem am_zw137 : am_zw 137 (838, 837, 0) = true := by decide +kernel
theorem am_zw138 : am_zw 138 (973, 972, 0) = true := by decide +kernel
theorem am_zw139 : am_zw 139 (983, 982, 0) = true := by decide +kernel
theorem am_zw140 : am_zw 140 (1008, 1007, 0) = true := by decide +kernel
theorem am_zw141 : am_zw 141 (1087, 1086, 0) = true := by decide +kernel
theorem am_zw142 : am_zw 142 (890, 889, 0) = true := by decide +kernel
theorem am_zw143 : am_zw 143 (921, 920, 0) = true := by decide +kernel
theorem am_zw144 : am_zw 144 (944, 943, 0) = true := by decide +kernel
theorem am_zw145 : am_zw 145 (955, 954, 0) = true := by decide +kernel
theorem am_zw146 : am_zw 146 (962, 961, 0) = true := by decide +kernel
theorem am_zw147 : am_zw 147 (1388, 1387, 0) = true := by decide +kernel
theorem am_zw148 : am_zw 148 (970, 969, 0) = true := by decide +kernel
theorem am_zw149 : am_zw 149 (980, 979, 0) = true := by decide +kernel
theorem am_zw150 : am_zw 150 (1053, 1052, 0) = true := by decide +kernel
theorem am_zw151 : am_zw 151 (1070, 1069, 0) = true := by decide +kernel
theorem am_zw152 : am_zw 152 (1073, 1072, 0) = true := by decide +kernel
theorem am_zw153 : am_zw 153 (1148, 1147, 0) = true := by decide +kernel
theorem am_at_r {i : Nat} {w : Cond} (h : lw_tbl[i]? = some w) (h2 : am_gw w = true) : am_at i w = true := by
  unfold am_at
  rw [h, h2, decide_eq_true rfl]
  rfl
set_option maxRecDepth 100000 in
set_option maxHeartbeats 4000000 in
theorem am_zwb154 : lw_tbl[1391]? = some (am_cw 154) := rfl
theorem am_zw154 : am_zw 154 (1391, 1390, 0) = true := by
  have h1 : am_at 1391 (am_cw 154) = true := am_at_r am_zwb154 rfl
  unfold am_zw
  rw [h1]
  decide +kernel
theorem am_zw155 : am_zw 155 (258, 257, 0) = true := by decide +kernel
theorem am_zw156 : am_zw 156 (258, 257, 0) = true := by decide +kernel
theorem am_zw157 : am_zw 157 (258, 257, 0) = true := by decide +kernel
theorem am_zw158 : am_zw 158 (258, 257, 0) = true := by decide +kernel
theorem am_zw159 : am_zw 159 (258, 257, 0) = true := by decide +kernel
theorem am_zw160 : am_zw 160 (258, 257, 0) = true := by decide +kernel
theorem am_zw161 : am_zw 161 (258, 257, 0) = true := by decide +kernel
theorem am_zw162 : am_zw 162 (258, 257, 0) = true := by decide +kernel
theorem am_zw163 : am_zw 163 (258, 257, 0) = true := by decide +kernel
theorem am_zw164 : am_zw 164 (258, 257, 0) = true := by decide +kernel
theorem am_zw165 : am_zw 165 (258, 257, 0) = true := by decide +kernel
theorem am_zw166 : am_zw 166 (258, 257, 0) = true := by decide +kernel
theorem am_zw167 : am_zw 167 (258, 257, 0) = true := by decide +kernel
theorem am_zw168 : am_zw 168 (258, 257, 0) = true := by decide +kernel
theorem am_zw169 : am_zw 169 (258, 257, 0) = true := by decide +kernel
theorem am_zw170 : am_zw 170 (258, 257, 0) = true := by decide +kernel
theorem am_zw171 : am_zw 171 (258, 257, 0) = true := by decide +kernel
theorem am_zw172 : am_zw 172 (258, 257, 0) = true := by decide +kernel
theorem am_zw173 : am_zw 173 (258, 257, 0) = true := by decide +kernel
theorem am_zw174 : am_zw 174 (258, 257, 0) = true := by decide +kernel
theorem am_zw175 : am_zw 175 (258, 257, 0) = true := by decide +kernel
theorem am_zw176 : am_zw 176 (258, 257, 0) = true := by decide +kernel
theorem am_zw177 : am_zw 177 (258, 257, 0) = true := by decide +kernel
theorem am_zw178 : am_zw 178 (258, 257, 0) = true := by decide +kernel
theorem am_zw179 : am_zw 179 (258, 257, 0) = true := by decide +kernel
theorem am_zw180 : am_zw 180 (258, 257, 0) = true := by decide +kernel
theorem am_zw181 : am_zw 181 (258, 257, 0) = true := by decide +kernel
theorem am_zw182 : am_zw 182 (258, 257, 0) = true := by decide +kernel
theorem am_zw183 : am_zw 183 (258, 257, 0) = true := by decide +kernel
theorem am_zw184 : am_zw 184 (258, 257, 0) = true := by decide +kernel
theorem am_zw185 : am_zw 185 (258, 257, 0) = true := by decide +kernel
theorem am_zw186 : am_zw 186 (258, 257, 0) = true := by decide +kernel
theorem am_zw187 : am_zw 187 (258, 257, 0) = true := by decide +kernel
theorem am_zw188 : am_zw 188 (258, 257, 0) = true := by decide +kernel
theorem am_zw189 : am_zw 189 (258, 257, 0) = true := by decide +kernel
theorem am_zw190 : am_zw 190 (258, 257, 0) = true := by decide +kernel
theorem am_zw191 : am_zw 191 (258, 257, 0) = true := by decide +kernel
theorem am_zw192 : am_zw 192 (258, 257, 0) = true := by decide +kernel
theorem am_zw193 : am_zw 193 (258, 257, 0) = true := by decide +kernel
theorem am_zw194 : am_zw 194 (258, 257, 0) = true := by decide +kernel
theorem am_zw195 : am_zw 195 (258, 257, 0) = true := by decide +kernel
theorem am_zw196 : am_zw 196 (258, 257, 0) = true := by decide +kernel
theorem am_zw197 : am_zw 197 (258, 257, 0) = true := by decide +kernel
theorem am_zw198 : am_zw 198 (258, 257, 0) = true := by decide +kernel
theorem am_zw199 : am_zw 199 (258, 257, 0) = true := by decide +kernel
theorem am_zw200 : am_zw 200 (258, 257, 0) = true := by decide +kernel
theorem am_zw201 : am_zw 201 (258, 257, 0) = true := by decide +kernel
theorem am_zw202 : am_zw 202 (258, 257, 0) = true := by decide +kernel
theorem am_zw203 : am_zw 203 (258, 257, 0) = true := by decide +kernel
theorem am_zw204 : am_zw 204 (258, 257, 0) = true := by decide +kernel
theorem am_zw205 : am_zw 205 (258, 257, 0) = true := by decide +kernel
theorem am_zw206 : am_zw 206 (258, 257, 0) = true := by decide +kernel
theorem am_zw207 : am_zw 207 (258, 257, 0) = true := by decide +kernel
theorem am_zw208 : am_zw 208 (258, 257, 0) = true := by decide +kernel
theorem am_zw209 : am_zw 209 (258, 257, 0) = true := by decide +kernel
theorem am_zw210 : am_zw 210 (258, 257, 0) = true := by decide +kernel
theorem am_zw211 : am_zw 211 (258, 257, 0) = true := by decide +kernel
theorem am_zw212 : am_zw 212 (258, 257, 0) = true := by decide +kernel
theorem am_zw213 : am_zw 213 (258, 257, 0) = true := by decide +kernel
theorem am_zw214 : am_zw 214 (258, 257, 0) = true := by decide +kernel
theorem am_zw215 : am_zw 215 (258, 257, 0) = true := by decide +kernel
theorem am_zw216 : am_zw 216 (258, 257, 0) = true := by decide +kernel
theorem am_zw217 : am_zw 217 (258, 257, 0) = true := by decide +kernel
theorem am_zw218 : am_zw 218 (258, 257, 0) = true := by decide +kernel
theorem am_zw219 : am_zw 219 (258, 257, 0) = true := by decide +kernel
theorem am_zw220 : am_zw 220 (258, 257, 0) = true := by decide +kernel
theorem am_zw221 : am_zw 221 (258, 257, 0) = true := by decide +kernel
theorem am_zw222 : am_zw 222 (258, 257, 0) = true := by decide +kernel
theorem am_zw223 : am_zw 223 (258, 257, 0) = true := by decide +kernel
theorem am_zw224 : am_zw 224 (258, 257, 0) = true := by decide +kernel
theorem am_zw225 : am_zw 225 (258, 257, 0) = true := by decide +kernel
theorem am_zw226 : am_zw 226 (258, 257, 0) = true := by decide +kernel
theorem am_zw228 : am_zw 228 (492, 490, 491) = true := by decide +kernel
theorem am_zw229 : am_zw 229 (524, 522, 523) = true := by decide +kernel
theorem am_zw230 : am_zw 230 (520, 518, 519) = true := by decide +kernel
theorem am_zw231 : am_zw 231 (420, 419, 0) = true := by decide +kernel
theorem am_zw_ok : ∀ z, am_zk z → ∃ q, am_zw z q = true := fun z h => match z, h with
  | 0, _ => ⟨_, am_zw0⟩
  | 1, _ => ⟨_, am_zw1⟩
  | 2, _ => ⟨_, am_zw2⟩
  | 3, _ => ⟨_, am_zw3⟩
  | 4, _ => ⟨_, am_zw4⟩
  | 5, _ => ⟨_, am_zw5⟩
  | 6, _ => ⟨_, am_zw6⟩
  | 7, _ => ⟨_, am_zw7⟩
  | 8, _ => ⟨_, am_zw8⟩
  | 9, _ => ⟨_, am_zw9⟩
  | 10, _ => ⟨_, am_zw10⟩
  | 11, _ => ⟨_, am_zw11⟩
  | 12, _ => ⟨_, am_zw12⟩
  | 13, _ => ⟨_, am_zw13⟩
  | 14, _ => ⟨_, am_zw14⟩
  | 15, _ => ⟨_, am_zw15⟩
  | 16, _ => ⟨_, am_zw16⟩
  | 17, _ => ⟨_, am_zw17⟩
  | 18, _ => ⟨_, am_zw18⟩
  | 19, _ => ⟨_, am_zw19⟩
  | 20, _ => ⟨_, am_zw20⟩
  | 21, _ => ⟨_, am_zw21⟩
  | 22, _ => ⟨_, am_zw22⟩
  | 23, _ => ⟨_, am_zw23⟩
  | 24, _ => ⟨_, am_zw24⟩
  | 25, _ => ⟨_, am_zw25⟩
  | 26, _ => ⟨_, am_zw26⟩
  | 27, _ => ⟨_, am_zw27⟩
  | 28, _ => ⟨_, am_zw28⟩
  | 29, _ => ⟨_, am_zw29⟩
  | 30, _ => ⟨_, am_zw30⟩
  | 31, _ => ⟨_, am_zw31⟩
  | 32, _ => ⟨_, am_zw32⟩
  | 33, _ => ⟨_, am_zw33⟩
  | 34, _ => ⟨_, am_zw34⟩
  | 35, _ => ⟨_, am_zw35⟩
  | 36, _ => ⟨_, am_zw36⟩
  | 37, _ => ⟨_, am_zw37⟩
  | 38, _ => ⟨_, am_zw38⟩
  | 39, _ => ⟨_, am_zw39⟩
  | 40, _ => ⟨_, am_zw40⟩
  | 41, _ => ⟨_, am_zw41⟩
  | 42, _ => ⟨_, am_zw42⟩
  | 43, _ => ⟨_, am_zw43⟩
  | 44, _ => ⟨_, am_zw44⟩
  | 45, _ => ⟨_, am_zw45⟩
  | 46, _ => ⟨_, am_zw46⟩
  | 47, _ => ⟨_, am_zw47⟩
  | 48, _ => ⟨_, am_zw48⟩
  | 49, _ => ⟨_, am_zw49⟩
  | 50, _ => ⟨_, am_zw50⟩
  | 51, _ => ⟨_, am_zw51⟩
  | 52, _ => ⟨_, am_zw52⟩
  | 53, _ => ⟨_, am_zw53⟩
  | 54, _ => ⟨_, am_zw54⟩
  | 55, _ => ⟨_, am_zw55⟩
  | 56, _ => ⟨_, am_zw56⟩
  | 57, _ => ⟨_, am_zw57⟩
  | 58, _ => ⟨_, am_zw58⟩
  | 59, _ => ⟨_, am_zw59⟩
  | 60, _ => ⟨_, am_zw60⟩
  | 61, _ => ⟨_, am_zw61⟩
  | 62, _ => ⟨_, am_zw62⟩
  | 63, _ => ⟨_, am_zw63⟩
  | 64, _ => ⟨_, am_zw64⟩
  | 65, _ => ⟨_, am_zw65⟩
  | 66, _ => ⟨_, am_zw66⟩
  | 67, _ => ⟨_, am_zw67⟩
  | 68, _ => ⟨_, am_zw68⟩
  | 69, _ => ⟨_, am_zw69⟩
  | 70, _ => ⟨_, am_zw70⟩
  | 71, _ => ⟨_, am_zw71⟩
  | 72, _ => ⟨_, am_zw72⟩
  | 73, _ => ⟨_, am_zw73⟩
  | 74, _ => ⟨_, am_zw74⟩
  | 75, _ => ⟨_, am_zw75⟩
  | 76, _ => ⟨_, am_zw76⟩
  | 77, _ => ⟨_, am_zw77⟩
  | 78, _ => ⟨_, am_zw78⟩
  | 79, _ => ⟨_, am_zw79⟩
  | 80, _ => ⟨_, am_zw80⟩
  | 81, _ => ⟨_, am_zw81⟩
  | 82, _ => ⟨_, am_zw82⟩
  | 83, _ => ⟨_, am_zw83⟩
  | 84, _ => ⟨_, am_zw84⟩
  | 85, _ => ⟨_, am_zw85⟩
  | 86, _ => ⟨_, am_zw86⟩
  | 87, _ => ⟨_, am_zw87⟩
  | 88, _ => ⟨_, am_zw88⟩
  | 89, _ => ⟨_, am_zw89⟩
  | 90, _ => ⟨_, am_zw90⟩
  | 91, _ => ⟨_, am_zw91⟩
  | 92, _ => ⟨_, am_zw92⟩
  | 93, _ => ⟨_, am_zw93⟩
  | 94, _ => ⟨_, am_zw94⟩
  | 95, _ => ⟨_, am_zw95⟩
  | 96, _ => ⟨_, am_zw96⟩
  | 97, _ => ⟨_, am_zw97⟩
  | 98, _ => ⟨_, am_zw98⟩
  | 99, _ => ⟨_, am_zw99⟩
  | 100, _ => ⟨_, am_zw100⟩
  | 101, _ => ⟨_, am_zw101⟩
  | 102, _ => ⟨_, am_zw102⟩
  | 103, _ => ⟨_, am_zw103⟩
  | 104, _ => ⟨_, am_zw104⟩
  | 105, _ => ⟨_, am_zw105⟩
  | 106, _ => ⟨_, am_zw106⟩
  | 107, _ => ⟨_, am_zw107⟩
  | 108, _ => ⟨_, am_zw108⟩
  | 109, _ => ⟨_, am_zw109⟩
  | 110, _ => ⟨_, am_zw110⟩
  | 111, _ => ⟨_, am_zw111⟩
  | 112, _ => ⟨_, am_zw112⟩
  | 113, _ => ⟨_, am_zw113⟩
  | 114, _ => ⟨_, am_zw114⟩
  | 115, _ => ⟨_, am_zw115⟩
  | 116, _ => ⟨_, am_zw116⟩
  | 117, _ => ⟨_, am_zw117⟩
  | 118, _ => ⟨_, am_zw118⟩
  | 119, _ => ⟨_, am_zw119⟩
  | 120, _ => ⟨_, am_zw120⟩
  | 121, _ => ⟨_, am_zw121⟩
  | 122, _ => ⟨_, am_zw122⟩
  | 123, _ => ⟨_, am_zw123⟩
  | 124, _ => ⟨_, am_zw124⟩
  | 125, _ => ⟨_, am_zw125⟩
  | 126, _ => ⟨_, am_zw126⟩
  | 127, _ => ⟨_, am_zw127⟩
  | 128, _ => ⟨_, am_zw128⟩
  | 129, _ => ⟨_, am_zw129⟩
  | 130, _ => ⟨_, am_zw130⟩
  | 131, _ => ⟨_, am_zw131⟩
  | 132, _ => ⟨_, am_zw132⟩
  | 133, _ => ⟨_, am_zw133⟩
  | 134, _ => ⟨_, am_zw134⟩
  | 135, _ => ⟨_, am_zw135⟩
  | 136, _ => ⟨_, am_zw136⟩
  | 137, _ => ⟨_, am_zw137⟩
  | 138, _ => ⟨_, am_zw138⟩
  | 139, _ => ⟨_, am_zw139⟩
  | 140, _ => ⟨_, am_zw140⟩
  | 141, _ => ⟨_, am_zw141⟩
  | 142, _ => ⟨_, am_zw142⟩
  | 143, _ => ⟨_, am_zw143⟩
  | 144, _ => ⟨_, am_zw144⟩
  | 145, _ => ⟨_, am_zw145⟩
  | 146, _ => ⟨_, am_zw146⟩
  | 147, _ => ⟨_, am_zw147⟩
  | 148, _ => ⟨_, am_zw148⟩
  | 149, _ => ⟨_, am_zw149⟩
  | 150, _ => ⟨_, am_zw150⟩
  | 151, _ => ⟨_, am_zw151⟩
  | 152, _ => ⟨_, am_zw152⟩
  | 153, _ => ⟨_, am_zw153⟩
  | 154, _ => ⟨_, am_zw154⟩
  | 155, _ => ⟨_, am_zw155⟩
  | 156, _ => ⟨_, am_zw156⟩
  | 157, _ => ⟨_, am_zw157⟩
  | 158, _ => ⟨_, am_zw158⟩
  | 159, _ => ⟨_, am_zw159⟩
  | 160, _ => ⟨_, am_zw160⟩
  | 161, _ => ⟨_, am_zw161⟩
  | 162, _ => ⟨_, am_zw162⟩
  | 163, _ => ⟨_, am_zw163⟩
  | 164, _ => ⟨_, am_zw164⟩
  | 165, _ => ⟨_, am_zw165⟩
  | 166, _ => ⟨_, am_zw166⟩
  | 167, _ => ⟨_, am_zw167⟩
  | 168, _ => ⟨_, am_zw168⟩
  | 169, _ => ⟨_, am_zw169⟩
  | 170, _ => ⟨_, am_zw170⟩
  | 171, _ => ⟨_, am_zw171⟩
  | 172, _ => ⟨_, am_zw172⟩
  | 173, _ => ⟨_, am_zw173⟩
  | 174, _ => ⟨_, am_zw174⟩
  | 175, _ => ⟨_, am_zw175⟩
  | 176, _ => ⟨_, am_zw176⟩
  | 177, _ => ⟨_, am_zw177⟩
  | 178, _ => ⟨_, am_zw178⟩
  | 179, _ => ⟨_, am_zw179⟩
  | 180, _ => ⟨_, am_zw180⟩
  | 181, _ => ⟨_, am_zw181⟩
  | 182, _ => ⟨_, am_zw182⟩
  | 183, _ => ⟨_, am_zw183⟩
  | 184, _ => ⟨_, am_zw184⟩
  | 185, _ => ⟨_, am_zw185⟩
  | 186, _ => ⟨_, am_zw186⟩
  | 187, _ => ⟨_, am_zw187⟩
  | 188, _ => ⟨_, am_zw188⟩
  | 189, _ => ⟨_, am_zw189⟩
  | 190, _ => ⟨_, am_zw190⟩
  | 191, _ => ⟨_, am_zw191⟩
  | 192, _ => ⟨_, am_zw192⟩
  | 193, _ => ⟨_, am_zw193⟩
  | 194, _ => ⟨_, am_zw194⟩
  | 195, _ => ⟨_, am_zw195⟩
  | 196, _ => ⟨_, am_zw196⟩
  | 197, _ => ⟨_, am_zw197⟩
  | 198, _ => ⟨_, am_zw198⟩
  | 199, _ => ⟨_, am_zw199⟩
  | 200, _ => ⟨_, am_zw200⟩
  | 201, _ => ⟨_, am_zw201⟩
  | 202, _ => ⟨_, am_zw202⟩
  | 203, _ => ⟨_, am_zw203⟩
  | 204, _ => ⟨_, am_zw204⟩
  | 205, _ => ⟨_, am_zw205⟩
  | 206, _ => ⟨_, am_zw206⟩
  | 207, _ => ⟨_, am_zw207⟩
  | 208, _ => ⟨_, am_zw208⟩
  | 209, _ => ⟨_, am_zw209⟩
  | 210, _ => ⟨_, am_zw210⟩
  | 211, _ => ⟨_, am_zw211⟩
  | 212, _ => ⟨_, am_zw212⟩
  | 213, _ => ⟨_, am_zw213⟩
  | 214, _ => ⟨_, am_zw214⟩
  | 215, _ => ⟨_, am_zw215⟩
  | 216, _ => ⟨_, am_zw216⟩
  | 217, _ => ⟨_, am_zw217⟩
  | 218, _ => ⟨_, am_zw218⟩
  | 219, _ => ⟨_, am_zw219⟩
  | 220, _ => ⟨_, am_zw220⟩
  | 221, _ => ⟨_, am_zw221⟩
  | 222, _ => ⟨_, am_zw222⟩
  | 223, _ => ⟨_, am_zw223⟩
  | 224, _ => ⟨_, am_zw224⟩
  | 225, _ => ⟨_, am_zw225⟩
  | 226, _ => ⟨_, am_zw226⟩
  | 227, h => absurd rfl h.2
  | 228, _ => ⟨_, am_zw228⟩
  | 229, _ => ⟨_, am_zw229⟩
  | 230, _ => ⟨_, am_zw230⟩
  | 231, _ => ⟨_, am_zw231⟩
  | n + 232, h => absurd h.1 (by omega)
