theorem am_dk227_0 : (am_c227_0).all (am_dok (am_by 227)) = true := by decide +kernel
theorem am_dk227_1 : (am_c227_1).all (am_dok (am_by 227)) = true := by decide +kernel
theorem am_dk227_2 : (am_c227_2).all (am_dok (am_by 227)) = true := by decide +kernel
theorem am_dk227_3 : (am_c227_3).all (am_dok (am_by 227)) = true := by decide +kernel
theorem am_dk227_4 : (am_c227_4).all (am_dok (am_by 227)) = true := by decide +kernel
theorem am_dk227_5 : (am_c227_5).all (am_dok (am_by 227)) = true := by decide +kernel
theorem am_dk227_6 : (am_c227_6).all (am_dok (am_by 227)) = true := by decide +kernel
theorem am_dk227_7 : (am_c227_7).all (am_dok (am_by 227)) = true := by decide +kernel
theorem am_dk227_8 : (am_c227_8).all (am_dok (am_by 227)) = true := by decide +kernel
theorem am_dk227_9 : (am_c227_9).all (am_dok (am_by 227)) = true := by decide +kernel
theorem am_dk227_10 : (am_c227_10).all (am_dok (am_by 227)) = true := by decide +kernel
theorem am_dk227_11 : (am_c227_11).all (am_dok (am_by 227)) = true := by decide +kernel
theorem am_dk227_12 : (am_c227_12).all (am_dok (am_by 227)) = true := by decide +kernel
theorem am_dk227_13 : (am_c227_13).all (am_dok (am_by 227)) = true := by decide +kernel
theorem am_dk227_14 : (am_c227_14).all (am_dok (am_by 227)) = true := by decide +kernel
theorem am_dk227_15 : (am_c227_15).all (am_dok (am_by 227)) = true := by decide +kernel
theorem am_dk227_16 : (am_c227_16).all (am_dok (am_by 227)) = true := by decide +kernel
theorem am_dk227_17 : (am_c227_17).all (am_dok (am_by 227)) = true := by decide +kernel
theorem am_dk227_18 : (am_c227_18).all (am_dok (am_by 227)) = true := by decide +kernel
theorem am_dk227_19 : (am_c227_19).all (am_dok (am_by 227)) = true := by decide +kernel
theorem am_dk227_20 : (am_c227_20).all (am_dok (am_by 227)) = true := by decide +kernel
theorem am_dk227_21 : (am_c227_21).all (am_dok (am_by 227)) = true := by decide +kernel
theorem am_dk227_22 : (am_c227_22).all (am_dok (am_by 227)) = true := by decide +kernel
theorem am_dk227_23 : (am_c227_23).all (am_dok (am_by 227)) = true := by decide +kernel
theorem am_dk227_24 : (am_c227_24).all (am_dok (am_by 227)) = true := by decide +kernel
theorem am_dk227_25 : (am_c227_25).all (am_dok (am_by 227)) = true := by decide +kernel
theorem am_dk227_26 : (am_c227_26).all (am_dok (am_by 227)) = true := by decide +kernel
theorem am_dk227_27 : (am_c227_27).all (am_dok (am_by 227)) = true := by decide +kernel
theorem am_dk227_28 : (am_c227_28).all (am_dok (am_by 227)) = true := by decide +kernel
theorem am_dk227_29 : (am_c227_29).all (am_dok (am_by 227)) = true := by decide +kernel
theorem am_dk227_30 : (am_c227_30).all (am_dok (am_by 227)) = true := by decide +kernel
theorem am_dk227_31 : (am_c227_31).all (am_dok (am_by 227)) = true := by decide +kernel
theorem am_dk227_32 : (am_c227_32).all (am_dok (am_by 227)) = true := by decide +kernel
theorem am_dk227_33 : (am_c227_33).all (am_dok (am_by 227)) = true := by decide +kernel
theorem am_dk227 : (am_code 227).all (am_dok (am_by 227)) = true := by
  show (am_c227_0 ++ (am_c227_1 ++ (am_c227_2 ++ (am_c227_3 ++ (am_c227_4 ++ (am_c227_5 ++ (am_c227_6 ++ (am_c227_7 ++ (am_c227_8 ++ (am_c227_9 ++ (am_c227_10 ++ (am_c227_11 ++ (am_c227_12 ++ (am_c227_13 ++ (am_c227_14 ++ (am_c227_15 ++ (am_c227_16 ++ (am_c227_17 ++ (am_c227_18 ++ (am_c227_19 ++ (am_c227_20 ++ (am_c227_21 ++ (am_c227_22 ++ (am_c227_23 ++ (am_c227_24 ++ (am_c227_25 ++ (am_c227_26 ++ (am_c227_27 ++ (am_c227_28 ++ (am_c227_29 ++ (am_c227_30 ++ (am_c227_31 ++ (am_c227_32 ++ (am_c227_33)))))))))))))))))))))))))))))))))).all _ = true
  simp only [List.all_append, am_dk227_0, am_dk227_1, am_dk227_2, am_dk227_3, am_dk227_4, am_dk227_5, am_dk227_6, am_dk227_7, am_dk227_8, am_dk227_9, am_dk227_10, am_dk227_11, am_dk227_12, am_dk227_13, am_dk227_14, am_dk227_15, am_dk227_16, am_dk227_17, am_dk227_18, am_dk227_19, am_dk227_20, am_dk227_21, am_dk227_22, am_dk227_23, am_dk227_24, am_dk227_25, am_dk227_26, am_dk227_27, am_dk227_28, am_dk227_29, am_dk227_30, am_dk227_31, am_dk227_32, am_dk227_33, Bool.and_self]
theorem am_dk : ∀ z, (am_code z).all (am_dok (am_by z)) = true := fun z => match z with
  | 0 => am_dk0
  | 1 => am_dk1
  | 2 => am_dk2
  | 3 => am_dk3
  | 4 => am_dk4
  | 5 => am_dk5
  | 6 => am_dk6
  | 7 => am_dk7
  | 8 => am_dk8
  | 9 => am_dk9
  | 10 => am_dk10
  | 11 => am_dk11
  | 12 => am_dk12
  | 13 => am_dk13
  | 14 => am_dk14
  | 15 => am_dk15
  | 16 => am_dk16
  | 17 => am_dk17
  | 18 => am_dk18
  | 19 => am_dk19
  | 20 => am_dk20
  | 21 => am_dk21
  | 22 => am_dk22
  | 23 => am_dk23
  | 24 => am_dk24
  | 25 => am_dk25
  | 26 => am_dk26
  | 27 => am_dk27
  | 28 => am_dk28
  | 29 => am_dk29
  | 30 => am_dk30
  | 31 => am_dk31
  | 32 => am_dk32
  | 33 => am_dk33
  | 34 => am_dk34
  | 35 => am_dk35
  | 36 => am_dk36
  | 37 => am_dk37
  | 38 => am_dk38
  | 39 => am_dk39
  | 40 => am_dk40
  | 41 => am_dk41
  | 42 => am_dk42
  | 43 => am_dk43
  | 44 => am_dk44
  | 45 => am_dk45
  | 46 => am_dk46
  | 47 => am_dk47
  | 48 => am_dk48
  | 49 => am_dk49
  | 50 => am_dk50
  | 51 => am_dk51
  | 52 => am_dk52
  | 53 => am_dk53
  | 54 => am_dk54
  | 55 => am_dk55
  | 56 => am_dk56
  | 57 => am_dk57
  | 58 => am_dk58
  | 59 => am_dk59
  | 60 => am_dk60
  | 61 => am_dk61
  | 62 => am_dk62
  | 63 => am_dk63
  | 64 => am_dk64
  | 65 => am_dk65
  | 66 => am_dk66
  | 67 => am_dk67
  | 68 => am_dk68
  | 69 => am_dk69
  | 70 => am_dk70
  | 71 => am_dk71
  | 72 => am_dk72
  | 73 => am_dk73
  | 74 => am_dk74
  | 75 => am_dk75
  | 76 => am_dk76
  | 77 => am_dk77
  | 78 => am_dk78
  | 79 => am_dk79
  | 80 => am_dk80
  | 81 => am_dk81
  | 82 => am_dk82
  | 83 => am_dk83
  | 84 => am_dk84
  | 85 => am_dk85
  | 86 => am_dk86
  | 87 => am_dk87
  | 88 => am_dk88
  | 89 => am_dk89
  | 90 => am_dk90
  | 91 => am_dk91
  | 92 => am_dk92
  | 93 => am_dk93
  | 94 => am_dk94
  | 95 => am_dk95
  | 96 => am_dk96
  | 97 => am_dk97
  | 98 => am_dk98
  | 99 => am_dk99
  | 100 => am_dk100
  | 101 => am_dk101
  | 102 => am_dk102
  | 103 => am_dk103
  | 104 => am_dk104
  | 105 => am_dk105
  | 106 => am_dk106
  | 107 => am_dk107
  | 108 => am_dk108
  | 109 => am_dk109
  | 110 => am_dk110
  | 111 => am_dk111
  | 112 => am_dk112
  | 113 => am_dk113
  | 114 => am_dk114
  | 115 => am_dk115
  | 116 => am_dk116
  | 117 => am_dk117
  | 118 => am_dk118
  | 119 => am_dk119
  | 120 => am_dk120
  | 121 => am_dk121
  | 122 => am_dk122
  | 123 => am_dk123
  | 124 => am_dk124
  | 125 => am_dk125
  | 126 => am_dk126
  | 127 => am_dk127
  | 128 => am_dk128
  | 129 => am_dk129
  | 130 => am_dk130
  | 131 => am_dk131
  | 132 => am_dk132
  | 133 => am_dk133
  | 134 => am_dk134
  | 135 => am_dk135
  | 136 => am_dk136
  | 137 => am_dk137
  | 138 => am_dk138
  | 139 => am_dk139
  | 140 => am_dk140
  | 141 => am_dk141
  | 142 => am_dk142
  | 143 => am_dk143
  | 144 => am_dk144
  | 145 => am_dk145
  | 146 => am_dk146
  | 147 => am_dk147
  | 148 => am_dk148
  | 149 => am_dk149
  | 150 => am_dk150
  | 151 => am_dk151
  | 152 => am_dk152
  | 153 => am_dk153
  | 154 => am_dk154
  | 155 => am_dk155
  | 156 => am_dk156
  | 157 => am_dk157
  | 158 => am_dk158
  | 159 => am_dk159
  | 160 => am_dk160
  | 161 => am_dk161
  | 162 => am_dk162
  | 163 => am_dk163
  | 164 => am_dk164
  | 165 => am_dk165
  | 166 => am_dk166
  | 167 => am_dk167
  | 168 => am_dk168
  | 169 => am_dk169
  | 170 => am_dk170
  | 171 => am_dk171
  | 172 => am_dk172
  | 173 => am_dk173
  | 174 => am_dk174
  | 175 => am_dk175
  | 176 => am_dk176
  | 177 => am_dk177
  | 178 => am_dk178
  | 179 => am_dk179
  | 180 => am_dk180
  | 181 => am_dk181
  | 182 => am_dk182
  | 183 => am_dk183
  | 184 => am_dk184
  | 185 => am_dk185
  | 186 => am_dk186
  | 187 => am_dk187
  | 188 => am_dk188
  | 189 => am_dk189
  | 190 => am_dk190
  | 191 => am_dk191
  | 192 => am_dk192
  | 193 => am_dk193
  | 194 => am_dk194
  | 195 => am_dk195
  | 196 => am_dk196
  | 197 => am_dk197
  | 198 => am_dk198
  | 199 => am_dk199
  | 200 => am_dk200
  | 201 => am_dk201
  | 202 => am_dk202
  | 203 => am_dk203
  | 204 => am_dk204
  | 205 => am_dk205
  | 206 => am_dk206
  | 207 => am_dk207
  | 208 => am_dk208
  | 209 => am_dk209
  | 210 => am_dk210
  | 211 => am_dk211
  | 212 => am_dk212
  | 213 => am_dk213
  | 214 => am_dk214
  | 215 => am_dk215
  | 216 => am_dk216
  | 217 => am_dk217
  | 218 => am_dk218
  | 219 => am_dk219
  | 220 => am_dk220
  | 221 => am_dk221
  | 222 => am_dk222
  | 223 => am_dk223
  | 224 => am_dk224
  | 225 => am_dk225
  | 226 => am_dk226
  | 227 => am_dk227
  | 228 => am_dk228
  | 229 => am_dk229
  | 230 => am_dk230
  | 231 => am_dk231
  | _ + 232 => rfl
