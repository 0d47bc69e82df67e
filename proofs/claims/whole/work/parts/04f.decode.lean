def am_ln : Instr → Nat := fun i => match i with
  | .iload _ | .aload _ | .fload _ | .dload _ | .istore _ | .astore _ | .fstore _ | .dstore _ | .bipush _ | .ldc _ | .newarray _ => 2
  | .iinc _ _ | .sipush _ | .goto _ | .ifCond _ _ | .if_icmp _ _ | .getfield _ | .putfield _ | .invokevirtual _ | .invokespecial _ | .invokestatic _ | .new _ | .anewarray _ => 3
  | .tableswitch _ _ _ _ | .lookupswitch _ _ => 0
  | _ => 1
def am_dok (b : ByteArray) (q : Nat × Instr) : Bool := match decode b q.1 with
  | .ok (i, n) => decide (i = q.2) && (am_ln q.2 == 0 || am_ln q.2 == n)
  | _ => false
theorem am_dk0 : (am_code 0).all (am_dok (am_by 0)) = true := by decide +kernel
theorem am_dk1 : (am_code 1).all (am_dok (am_by 1)) = true := by decide +kernel
theorem am_dk2 : (am_code 2).all (am_dok (am_by 2)) = true := by decide +kernel
theorem am_dk3 : (am_code 3).all (am_dok (am_by 3)) = true := by decide +kernel
theorem am_dk4 : (am_code 4).all (am_dok (am_by 4)) = true := by decide +kernel
theorem am_dk5 : (am_code 5).all (am_dok (am_by 5)) = true := by decide +kernel
theorem am_dk6 : (am_code 6).all (am_dok (am_by 6)) = true := by decide +kernel
theorem am_dk7 : (am_code 7).all (am_dok (am_by 7)) = true := by decide +kernel
theorem am_dk8 : (am_code 8).all (am_dok (am_by 8)) = true := by decide +kernel
theorem am_dk9 : (am_code 9).all (am_dok (am_by 9)) = true := by decide +kernel
theorem am_dk10 : (am_code 10).all (am_dok (am_by 10)) = true := by decide +kernel
theorem am_dk11 : (am_code 11).all (am_dok (am_by 11)) = true := by decide +kernel
theorem am_dk12 : (am_code 12).all (am_dok (am_by 12)) = true := by decide +kernel
theorem am_dk13 : (am_code 13).all (am_dok (am_by 13)) = true := by decide +kernel
theorem am_dk14 : (am_code 14).all (am_dok (am_by 14)) = true := by decide +kernel
theorem am_dk15 : (am_code 15).all (am_dok (am_by 15)) = true := by decide +kernel
theorem am_dk16 : (am_code 16).all (am_dok (am_by 16)) = true := by decide +kernel
theorem am_dk17 : (am_code 17).all (am_dok (am_by 17)) = true := by decide +kernel
theorem am_dk18 : (am_code 18).all (am_dok (am_by 18)) = true := by decide +kernel
theorem am_dk19 : (am_code 19).all (am_dok (am_by 19)) = true := by decide +kernel
theorem am_dk20 : (am_code 20).all (am_dok (am_by 20)) = true := by decide +kernel
theorem am_dk21 : (am_code 21).all (am_dok (am_by 21)) = true := by decide +kernel
theorem am_dk22 : (am_code 22).all (am_dok (am_by 22)) = true := by decide +kernel
theorem am_dk23 : (am_code 23).all (am_dok (am_by 23)) = true := by decide +kernel
theorem am_dk24 : (am_code 24).all (am_dok (am_by 24)) = true := by decide +kernel
theorem am_dk25 : (am_code 25).all (am_dok (am_by 25)) = true := by decide +kernel
theorem am_dk26 : (am_code 26).all (am_dok (am_by 26)) = true := by decide +kernel
theorem am_dk27 : (am_code 27).all (am_dok (am_by 27)) = true := by decide +kernel
theorem am_dk28 : (am_code 28).all (am_dok (am_by 28)) = true := by decide +kernel
theorem am_dk29 : (am_code 29).all (am_dok (am_by 29)) = true := by decide +kernel
theorem am_dk30 : (am_code 30).all (am_dok (am_by 30)) = true := by decide +kernel
theorem am_dk31 : (am_code 31).all (am_dok (am_by 31)) = true := by decide +kernel
theorem am_dk32 : (am_code 32).all (am_dok (am_by 32)) = true := by decide +kernel
theorem am_dk33 : (am_code 33).all (am_dok (am_by 33)) = true := by decide +kernel
theorem am_dk34 : (am_code 34).all (am_dok (am_by 34)) = true := by decide +kernel
theorem am_dk35 : (am_code 35).all (am_dok (am_by 35)) = true := by decide +kernel
theorem am_dk36 : (am_code 36).all (am_dok (am_by 36)) = true := by decide +kernel
theorem am_dk37 : (am_code 37).all (am_dok (am_by 37)) = true := by decide +kernel
theorem am_dk38 : (am_code 38).all (am_dok (am_by 38)) = true := by decide +kernel
theorem am_dk39 : (am_code 39).all (am_dok (am_by 39)) = true := by decide +kernel
theorem am_dk40 : (am_code 40).all (am_dok (am_by 40)) = true := by decide +kernel
theorem am_dk41 : (am_code 41).all (am_dok (am_by 41)) = true := by decide +kernel
theorem am_dk42 : (am_code 42).all (am_dok (am_by 42)) = true := by decide +kernel
theorem am_dk43 : (am_code 43).all (am_dok (am_by 43)) = true := by decide +kernel
theorem am_dk44 : (am_code 44).all (am_dok (am_by 44)) = true := by decide +kernel
theorem am_dk45_0 : (am_c45_0).all (am_dok (am_by 45)) = true := by decide +kernel
theorem am_dk45_1 : (am_c45_1).all (am_dok (am_by 45)) = true := by decide +kernel
theorem am_dk45_2 : (am_c45_2).all (am_dok (am_by 45)) = true := by decide +kernel
theorem am_dk45 : (am_code 45).all (am_dok (am_by 45)) = true := by
  show (am_c45_0 ++ (am_c45_1 ++ (am_c45_2))).all _ = true
  simp only [List.all_append, am_dk45_0, am_dk45_1, am_dk45_2, Bool.and_self]
theorem am_dk46 : (am_code 46).all (am_dok (am_by 46)) = true := by decide +kernel
theorem am_dk47 : (am_code 47).all (am_dok (am_by 47)) = true := by decide +kernel
theorem am_dk48 : (am_code 48).all (am_dok (am_by 48)) = true := by decide +kernel
theorem am_dk49_0 : (am_c49_0).all (am_dok (am_by 49)) = true := by decide +kernel
theorem am_dk49_1 : (am_c49_1).all (am_dok (am_by 49)) = true := by decide +kernel
theorem am_dk49_2 : (am_c49_2).all (am_dok (am_by 49)) = true := by decide +kernel
theorem am_dk49 : (am_code 49).all (am_dok (am_by 49)) = true := by
  show (am_c49_0 ++ (am_c49_1 ++ (am_c49_2))).all _ = true
  simp only [List.all_append, am_dk49_0, am_dk49_1, am_dk49_2, Bool.and_self]
theorem am_dk50 : (am_code 50).all (am_dok (am_by 50)) = true := by decide +kernel
theorem am_dk51 : (am_code 51).all (am_dok (am_by 51)) = true := by decide +kernel
theorem am_dk52 : (am_code 52).all (am_dok (am_by 52)) = true := by decide +kernel
theorem am_dk53 : (am_code 53).all (am_dok (am_by 53)) = true := by decide +kernel
theorem am_dk54 : (am_code 54).all (am_dok (am_by 54)) = true := by decide +kernel
theorem am_dk55 : (am_code 55).all (am_dok (am_by 55)) = true := by decide +kernel
theorem am_dk56 : (am_code 56).all (am_dok (am_by 56)) = true := by decide +kernel
theorem am_dk57 : (am_code 57).all (am_dok (am_by 57)) = true := by decide +kernel
theorem am_dk58 : (am_code 58).all (am_dok (am_by 58)) = true := by decide +kernel
theorem am_dk59 : (am_code 59).all (am_dok (am_by 59)) = true := by decide +kernel
theorem am_dk60 : (am_code 60).all (am_dok (am_by 60)) = true := by decide +kernel
theorem am_dk61 : (am_code 61).all (am_dok (am_by 61)) = true := by decide +kernel
theorem am_dk62 : (am_code 62).all (am_dok (am_by 62)) = true := by decide +kernel
theorem am_dk63 : (am_code 63).all (am_dok (am_by 63)) = true := by decide +kernel
theorem am_dk64 : (am_code 64).all (am_dok (am_by 64)) = true := by decide +kernel
theorem am_dk65 : (am_code 65).all (am_dok (am_by 65)) = true := by decide +kernel
theorem am_dk66 : (am_code 66).all (am_dok (am_by 66)) = true := by decide +kernel
theorem am_dk67 : (am_code 67).all (am_dok (am_by 67)) = true := by decide +kernel
theorem am_dk68 : (am_code 68).all (am_dok (am_by 68)) = true := by decide +kernel
theorem am_dk69 : (am_code 69).all (am_dok (am_by 69)) = true := by decide +kernel
theorem am_dk70 : (am_code 70).all (am_dok (am_by 70)) = true := by decide +kernel
theorem am_dk71 : (am_code 71).all (am_dok (am_by 71)) = true := by decide +kernel
theorem am_dk72 : (am_code 72).all (am_dok (am_by 72)) = true := by decide +kernel
theorem am_dk73 : (am_code 73).all (am_dok (am_by 73)) = true := by decide +kernel
theorem am_dk74 : (am_code 74).all (am_dok (am_by 74)) = true := by decide +kernel
theorem am_dk75 : (am_code 75).all (am_dok (am_by 75)) = true := by decide +kernel
theorem am_dk76 : (am_code 76).all (am_dok (am_by 76)) = true := by decide +kernel
theorem am_dk77 : (am_code 77).all (am_dok (am_by 77)) = true := by decide +kernel
theorem am_dk78 : (am_code 78).all (am_dok (am_by 78)) = true := by decide +kernel
theorem am_dk79 : (am_code 79).all (am_dok (am_by 79)) = true := by decide +kernel
theorem am_dk80 : (am_code 80).all (am_dok (am_by 80)) = true := by decide +kernel
theorem am_dk81 : (am_code 81).all (am_dok (am_by 81)) = true := by decide +kernel
theorem am_dk82 : (am_code 82).all (am_dok (am_by 82)) = true := by decide +kernel
theorem am_dk83 : (am_code 83).all (am_dok (am_by 83)) = true := by decide +kernel
theorem am_dk84 : (am_code 84).all (am_dok (am_by 84)) = true := by decide +kernel
theorem am_dk85 : (am_code 85).all (am_dok (am_by 85)) = true := by decide +kernel
theorem am_dk86 : (am_code 86).all (am_dok (am_by 86)) = true := by decide +kernel
theorem am_dk87 : (am_code 87).all (am_dok (am_by 87)) = true := by decide +kernel
theorem am_dk88 : (am_code 88).all (am_dok (am_by 88)) = true := by decide +kernel
theorem am_dk89 : (am_code 89).all (am_dok (am_by 89)) = true := by decide +kernel
theorem am_dk90 : (am_code 90).all (am_dok (am_by 90)) = true := by decide +kernel
theorem am_dk91 : (am_code 91).all (am_dok (am_by 91)) = true := by decide +kernel
theorem am_dk92 : (am_code 92).all (am_dok (am_by 92)) = true := by decide +kernel
theorem am_dk93 : (am_code 93).all (am_dok (am_by 93)) = true := by decide +kernel
theorem am_dk94 : (am_code 94).all (am_dok (am_by 94)) = true := by decide +kernel
theorem am_dk95 : (am_code 95).all (am_dok (am_by 95)) = true := by decide +kernel
theorem am_dk96 : (am_code 96).all (am_dok (am_by 96)) = true := by decide +kernel
theorem am_dk97 : (am_code 97).all (am_dok (am_by 97)) = true := by decide +kernel
theorem am_dk98 : (am_code 98).all (am_dok (am_by 98)) = true := by decide +kernel
theorem am_dk99 : (am_code 99).all (am_dok (am_by 99)) = true := by decide +kernel
theorem am_dk100 : (am_code 100).all (am_dok (am_by 100)) = true := by decide +kernel
theorem am_dk101 : (am_code 101).all (am_dok (am_by 101)) = true := by decide +kernel
theorem am_dk102 : (am_code 102).all (am_dok (am_by 102)) = true := by decide +kernel
theorem am_dk103 : (am_code 103).all (am_dok (am_by 103)) = true := by decide +kernel
theorem am_dk104 : (am_code 104).all (am_dok (am_by 104)) = true := by decide +kernel
theorem am_dk105 : (am_code 105).all (am_dok (am_by 105)) = true := by decide +kernel
theorem am_dk106 : (am_code 106).all (am_dok (am_by 106)) = true := by decide +kernel
theorem am_dk107 : (am_code 107).all (am_dok (am_by 107)) = true := by decide +kernel
theorem am_dk108 : (am_code 108).all (am_dok (am_by 108)) = true := by decide +kernel
theorem am_dk109 : (am_code 109).all (am_dok (am_by 109)) = true := by decide +kernel
theorem am_dk110 : (am_code 110).all (am_dok (am_by 110)) = true := by decide +kernel
theorem am_dk111 : (am_code 111).all (am_dok (am_by 111)) = true := by decide +kernel
theorem am_dk112 : (am_code 112).all (am_dok (am_by 112)) = true := by decide +kernel
theorem am_dk113 : (am_code 113).all (am_dok (am_by 113)) = true := by decide +kernel
theorem am_dk114 : (am_code 114).all (am_dok (am_by 114)) = true := by decide +kernel
theorem am_dk115 : (am_code 115).all (am_dok (am_by 115)) = true := by decide +kernel
theorem am_dk116 : (am_code 116).all (am_dok (am_by 116)) = true := by decide +kernel
theorem am_dk117 : (am_code 117).all (am_dok (am_by 117)) = true := by decide +kernel
theorem am_dk118 : (am_code 118).all (am_dok (am_by 118)) = true := by decide +kernel
theorem am_dk119 : (am_code 119).all (am_dok (am_by 119)) = true := by decide +kernel
theorem am_dk120 : (am_code 120).all (am_dok (am_by 120)) = true := by decide +kernel
theorem am_dk121 : (am_code 121).all (am_dok (am_by 121)) = true := by decide +kernel
theorem am_dk122 : (am_code 122).all (am_dok (am_by 122)) = true := by decide +kernel
theorem am_dk123 : (am_code 123).all (am_dok (am_by 123)) = true := by decide +kernel
theorem am_dk124 : (am_code 124).all (am_dok (am_by 124)) = true := by decide +kernel
theorem am_dk125 : (am_code 125).all (am_dok (am_by 125)) = true := by decide +kernel
theorem am_dk126 : (am_code 126).all (am_dok (am_by 126)) = true := by decide +kernel
theorem am_dk127 : (am_code 127).all (am_dok (am_by 127)) = true := by decide +kernel
theorem am_dk128 : (am_code 128).all (am_dok (am_by 128)) = true := by decide +kernel
theorem am_dk129 : (am_code 129).all (am_dok (am_by 129)) = true := by decide +kernel
theorem am_dk130 : (am_code 130).all (am_dok (am_by 130)) = true := by decide +kernel
theorem am_dk131 : (am_code 131).all (am_dok (am_by 131)) = true := by decide +kernel
theorem am_dk132_0 : (am_c132_0).all (am_dok (am_by 132)) = true := by decide +kernel
theorem am_dk132_1 : (am_c132_1).all (am_dok (am_by 132)) = true := by decide +kernel
theorem am_dk132_2 : (am_c132_2).all (am_dok (am_by 132)) = true := by decide +kernel
theorem am_dk132 : (am_code 132).all (am_dok (am_by 132)) = true := by
  show (am_c132_0 ++ (am_c132_1 ++ (am_c132_2))).all _ = true
  simp only [List.all_append, am_dk132_0, am_dk132_1, am_dk132_2, Bool.and_self]
theorem am_dk133 : (am_code 133).all (am_dok (am_by 133)) = true := by decide +kernel
theorem am_dk134 : (am_code 134).all (am_dok (am_by 134)) = true := by decide +kernel
theorem am_dk135 : (am_code 135).all (am_dok (am_by 135)) = true := by decide +kernel
theorem am_dk136 : (am_code 136).all (am_dok (am_by 136)) = true := by decide +kernel
theorem am_dk137 : (am_code 137).all (am_dok (am_by 137)) = true := by decide +kernel
theorem am_dk138 : (am_code 138).all (am_dok (am_by 138)) = true := by decide +kernel
theorem am_dk139 : (am_code 139).all (am_dok (am_by 139)) = true := by decide +kernel
theorem am_dk140_0 : (am_c140_0).all (am_dok (am_by 140)) = true := by decide +kernel
theorem am_dk140_1 : (am_c140_1).all (am_dok (am_by 140)) = true := by decide +kernel
theorem am_dk140_2 : (am_c140_2).all (am_dok (am_by 140)) = true := by decide +kernel
theorem am_dk140_3 : (am_c140_3).all (am_dok (am_by 140)) = true := by decide +kernel
theorem am_dk140_4 : (am_c140_4).all (am_dok (am_by 140)) = true := by decide +kernel
theorem am_dk140 : (am_code 140).all (am_dok (am_by 140)) = true := by
  show (am_c140_0 ++ (am_c140_1 ++ (am_c140_2 ++ (am_c140_3 ++ (am_c140_4))))).all _ = true
  simp only [List.all_append, am_dk140_0, am_dk140_1, am_dk140_2, am_dk140_3, am_dk140_4, Bool.and_self]
theorem am_dk141 : (am_code 141).all (am_dok (am_by 141)) = true := by decide +kernel
theorem am_dk142 : (am_code 142).all (am_dok (am_by 142)) = true := by decide +kernel
theorem am_dk143 : (am_code 143).all (am_dok (am_by 143)) = true := by decide +kernel
theorem am_dk144 : (am_code 144).all (am_dok (am_by 144)) = true := by decide +kernel
theorem am_dk145 : (am_code 145).all (am_dok (am_by 145)) = true := by decide +kernel
theorem am_dk146 : (am_code 146).all (am_dok (am_by 146)) = true := by decide +kernel
theorem am_dk147 : (am_code 147).all (am_dok (am_by 147)) = true := by decide +kernel
theorem am_dk148 : (am_code 148).all (am_dok (am_by 148)) = true := by decide +kernel
theorem am_dk149 : (am_code 149).all (am_dok (am_by 149)) = true := by decide +kernel
theorem am_dk150 : (am_code 150).all (am_dok (am_by 150)) = true := by decide +kernel
theorem am_dk151_0 : (am_c151_0).all (am_dok (am_by 151)) = true := by decide +kernel
theorem am_dk151_1 : (am_c151_1).all (am_dok (am_by 151)) = true := by decide +kernel
theorem am_dk151_2 : (am_c151_2).all (am_dok (am_by 151)) = true := by decide +kernel
theorem am_dk151_3 : (am_c151_3).all (am_dok (am_by 151)) = true := by decide +kernel
theorem am_dk151 : (am_code 151).all (am_dok (am_by 151)) = true := by
  show (am_c151_0 ++ (am_c151_1 ++ (am_c151_2 ++ (am_c151_3)))).all _ = true
  simp only [List.all_append, am_dk151_0, am_dk151_1, am_dk151_2, am_dk151_3, Bool.and_self]
theorem am_dk152_0 : (am_c152_0).all (am_dok (am_by 152)) = true := by decide +kernel
theorem am_dk152_1 : (am_c152_1).all (am_dok (am_by 152)) = true := by decide +kernel
theorem am_dk152_2 : (am_c152_2).all (am_dok (am_by 152)) = true := by decide +kernel
theorem am_dk152_3 : (am_c152_3).all (am_dok (am_by 152)) = true := by decide +kernel
theorem am_dk152_4 : (am_c152_4).all (am_dok (am_by 152)) = true := by decide +kernel
theorem am_dk152 : (am_code 152).all (am_dok (am_by 152)) = true := by
  show (am_c152_0 ++ (am_c152_1 ++ (am_c152_2 ++ (am_c152_3 ++ (am_c152_4))))).all _ = true
  simp only [List.all_append, am_dk152_0, am_dk152_1, am_dk152_2, am_dk152_3, am_dk152_4, Bool.and_self]
theorem am_dk153 : (am_code 153).all (am_dok (am_by 153)) = true := by decide +kernel
theorem am_dk154 : (am_code 154).all (am_dok (am_by 154)) = true := by decide +kernel
theorem am_dk155 : (am_code 155).all (am_dok (am_by 155)) = true := by decide +kernel
theorem am_dk156 : (am_code 156).all (am_dok (am_by 156)) = true := by decide +kernel
theorem am_dk157 : (am_code 157).all (am_dok (am_by 157)) = true := by decide +kernel
theorem am_dk158 : (am_code 158).all (am_dok (am_by 158)) = true := by decide +kernel
theorem am_dk159 : (am_code 159).all (am_dok (am_by 159)) = true := by decide +kernel
theorem am_dk160 : (am_code 160).all (am_dok (am_by 160)) = true := by decide +kernel
theorem am_dk161 : (am_code 161).all (am_dok (am_by 161)) = true := by decide +kernel
theorem am_dk162 : (am_code 162).all (am_dok (am_by 162)) = true := by decide +kernel
theorem am_dk163 : (am_code 163).all (am_dok (am_by 163)) = true := by decide +kernel
theorem am_dk164 : (am_code 164).all (am_dok (am_by 164)) = true := by decide +kernel
theorem am_dk165 : (am_code 165).all (am_dok (am_by 165)) = true := by decide +kernel
theorem am_dk166 : (am_code 166).all (am_dok (am_by 166)) = true := by decide +kernel
theorem am_dk167 : (am_code 167).all (am_dok (am_by 167)) = true := by decide +kernel
theorem am_dk168 : (am_code 168).all (am_dok (am_by 168)) = true := by decide +kernel
theorem am_dk169 : (am_code 169).all (am_dok (am_by 169)) = true := by decide +kernel
theorem am_dk170 : (am_code 170).all (am_dok (am_by 170)) = true := by decide +kernel
theorem am_dk171 : (am_code 171).all (am_dok (am_by 171)) = true := by decide +kernel
theorem am_dk172 : (am_code 172).all (am_dok (am_by 172)) = true := by decide +kernel
theorem am_dk173 : (am_code 173).all (am_dok (am_by 173)) = true := by decide +kernel
theorem am_dk174 : (am_code 174).all (am_dok (am_by 174)) = true := by decide +kernel
theorem am_dk175 : (am_code 175).all (am_dok (am_by 175)) = true := by decide +kernel
theorem am_dk176 : (am_code 176).all (am_dok (am_by 176)) = true := by decide +kernel
theorem am_dk177 : (am_code 177).all (am_dok (am_by 177)) = true := by decide +kernel
theorem am_dk178 : (am_code 178).all (am_dok (am_by 178)) = true := by decide +kernel
theorem am_dk179 : (am_code 179).all (am_dok (am_by 179)) = true := by decide +kernel
theorem am_dk180 : (am_code 180).all (am_dok (am_by 180)) = true := by decide +kernel
theorem am_dk181_0 : (am_c181_0).all (am_dok (am_by 181)) = true := by decide +kernel
theorem am_dk181_1 : (am_c181_1).all (am_dok (am_by 181)) = true := by decide +kernel
theorem am_dk181_2 : (am_c181_2).all (am_dok (am_by 181)) = true := by decide +kernel
theorem am_dk181 : (am_code 181).all (am_dok (am_by 181)) = true := by
  show (am_c181_0 ++ (am_c181_1 ++ (am_c181_2))).all _ = true
  simp only [List.all_append, am_dk181_0, am_dk181_1, am_dk181_2, Bool.and_self]
theorem am_dk182 : (am_code 182).all (am_dok (am_by 182)) = true := by decide +kernel
theorem am_dk183 : (am_code 183).all (am_dok (am_by 183)) = true := by decide +kernel
theorem am_dk184 : (am_code 184).all (am_dok (am_by 184)) = true := by decide +kernel
theorem am_dk185 : (am_code 185).all (am_dok (am_by 185)) = true := by decide +kernel
theorem am_dk186 : (am_code 186).all (am_dok (am_by 186)) = true := by decide +kernel
theorem am_dk187 : (am_code 187).all (am_dok (am_by 187)) = true := by decide +kernel
theorem am_dk188 : (am_code 188).all (am_dok (am_by 188)) = true := by decide +kernel
theorem am_dk189 : (am_code 189).all (am_dok (am_by 189)) = true := by decide +kernel
theorem am_dk190 : (am_code 190).all (am_dok (am_by 190)) = true := by decide +kernel
theorem am_dk191 : (am_code 191).all (am_dok (am_by 191)) = true := by decide +kernel
theorem am_dk192 : (am_code 192).all (am_dok (am_by 192)) = true := by decide +kernel
theorem am_dk193 : (am_code 193).all (am_dok (am_by 193)) = true := by decide +kernel
theorem am_dk194 : (am_code 194).all (am_dok (am_by 194)) = true := by decide +kernel
theorem am_dk195 : (am_code 195).all (am_dok (am_by 195)) = true := by decide +kernel
theorem am_dk196 : (am_code 196).all (am_dok (am_by 196)) = true := by decide +kernel
theorem am_dk197 : (am_code 197).all (am_dok (am_by 197)) = true := by decide +kernel
theorem am_dk198 : (am_code 198).all (am_dok (am_by 198)) = true := by decide +kernel
theorem am_dk199 : (am_code 199).all (am_dok (am_by 199)) = true := by decide +kernel
theorem am_dk200 : (am_code 200).all (am_dok (am_by 200)) = true := by decide +kernel
theorem am_dk201 : (am_code 201).all (am_dok (am_by 201)) = true := by decide +kernel
theorem am_dk202 : (am_code 202).all (am_dok (am_by 202)) = true := by decide +kernel
theorem am_dk203 : (am_code 203).all (am_dok (am_by 203)) = true := by decide +kernel
theorem am_dk204 : (am_code 204).all (am_dok (am_by 204)) = true := by decide +kernel
theorem am_dk205 : (am_code 205).all (am_dok (am_by 205)) = true := by decide +kernel
theorem am_dk206 : (am_code 206).all (am_dok (am_by 206)) = true := by decide +kernel
theorem am_dk207 : (am_code 207).all (am_dok (am_by 207)) = true := by decide +kernel
theorem am_dk208 : (am_code 208).all (am_dok (am_by 208)) = true := by decide +kernel
theorem am_dk209 : (am_code 209).all (am_dok (am_by 209)) = true := by decide +kernel
theorem am_dk210 : (am_code 210).all (am_dok (am_by 210)) = true := by decide +kernel
theorem am_dk211 : (am_code 211).all (am_dok (am_by 211)) = true := by decide +kernel
theorem am_dk212 : (am_code 212).all (am_dok (am_by 212)) = true := by decide +kernel
theorem am_dk213 : (am_code 213).all (am_dok (am_by 213)) = true := by decide +kernel
theorem am_dk214 : (am_code 214).all (am_dok (am_by 214)) = true := by decide +kernel
theorem am_dk215 : (am_code 215).all (am_dok (am_by 215)) = true := by decide +kernel
theorem am_dk216 : (am_code 216).all (am_dok (am_by 216)) = true := by decide +kernel
theorem am_dk217 : (am_code 217).all (am_dok (am_by 217)) = true := by decide +kernel
theorem am_dk218 : (am_code 218).all (am_dok (am_by 218)) = true := by decide +kernel
theorem am_dk219 : (am_code 219).all (am_dok (am_by 219)) = true := by decide +kernel
theorem am_dk220 : (am_code 220).all (am_dok (am_by 220)) = true := by decide +kernel
theorem am_dk221 : (am_code 221).all (am_dok (am_by 221)) = true := by decide +kernel
theorem am_dk222 : (am_code 222).all (am_dok (am_by 222)) = true := by decide +kernel
theorem am_dk223 : (am_code 223).all (am_dok (am_by 223)) = true := by decide +kernel
theorem am_dk224 : (am_code 224).all (am_dok (am_by 224)) = true := by decide +kernel
theorem am_dk225 : (am_code 225).all (am_dok (am_by 225)) = true := by decide +kernel
theorem am_dk226 : (am_code 226).all (am_dok (am_by 226)) = true := by decide +kernel
