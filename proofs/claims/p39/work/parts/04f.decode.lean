/-- an entry of a table of handlers: its class's word, what stands at its target -/
def am_he (z : Nat) (q : Nat × Nat × Nat × Nat) (h : Nat × Nat × Nat × Nat × Nat) (i : Nat) : Bool := decide (q.1 = h.1) && decide (q.2.1 = h.2.1) && decide (q.2.2.2 ≠ 0) && decide (h.2.2.1 < 6) && am_at i (.classLink (am_cR 10) q.2.2.2 (am_en h.2.2.1)) && decide (am_own z = 10) &&
  (match am_cd z q.2.2.1 with
  | some (.astore_n j) => decide (j.val = h.2.2.2.2) && decide (q.2.2.1 + 1 = h.2.2.2.1)
  | some (.astore j) => decide (j = h.2.2.2.2) && decide (q.2.2.1 + 2 = h.2.2.2.1)
  | _ => false)
def am_hes (z : Nat) : List (Nat × Nat × Nat × Nat) → List (Nat × Nat × Nat × Nat × Nat) → List Nat → Bool
  | [], [], _ => true
  | q :: qs, h :: hs, i :: is => am_he z q h i && am_hes z qs hs is
  | _, _, _ => false
/-- an exception that passes by a handler of another class -/
def am_ncs : List (Nat × Nat) := [(2, 1), (3, 1), (0, 2), (3, 2)]
/-- at each call with a table: whoever may come is caught by an entry, and passes by those before -/
def am_hps (z : Nat) : Bool := match am_hs z with
  | [] => true
  | [_] => true
  | [a, b] => decide ((b.2.2.1, a.2.2.1) ∈ am_ncs)
  | _ => false
theorem am_hk115 : (am_hes 115 (am_hh 115) (am_hs 115) [378] && am_hps 115) = true := by decide +kernel
theorem am_hk116 : (am_hes 116 (am_hh 116) (am_hs 116) [378] && am_hps 116) = true := by decide +kernel
theorem am_hk117 : (am_hes 117 (am_hh 117) (am_hs 117) [378] && am_hps 117) = true := by decide +kernel
theorem am_hk118 : (am_hes 118 (am_hh 118) (am_hs 118) [378] && am_hps 118) = true := by decide +kernel
theorem am_hk119 : (am_hes 119 (am_hh 119) (am_hs 119) [378] && am_hps 119) = true := by decide +kernel
theorem am_hk120 : (am_hes 120 (am_hh 120) (am_hs 120) [378] && am_hps 120) = true := by decide +kernel
theorem am_hk121 : (am_hes 121 (am_hh 121) (am_hs 121) [378] && am_hps 121) = true := by decide +kernel
theorem am_hk122 : (am_hes 122 (am_hh 122) (am_hs 122) [378] && am_hps 122) = true := by decide +kernel
theorem am_hk123 : (am_hes 123 (am_hh 123) (am_hs 123) [641, 674] && am_hps 123) = true := by decide +kernel
theorem am_hk124 : (am_hes 124 (am_hh 124) (am_hs 124) [641, 674] && am_hps 124) = true := by decide +kernel
theorem am_hk125 : (am_hes 125 (am_hh 125) (am_hs 125) [674] && am_hps 125) = true := by decide +kernel
theorem am_hk126 : (am_hes 126 (am_hh 126) (am_hs 126) [641, 674] && am_hps 126) = true := by decide +kernel
theorem am_hk127 : (am_hes 127 (am_hh 127) (am_hs 127) [641] && am_hps 127) = true := by decide +kernel
theorem am_hk128 : (am_hes 128 (am_hh 128) (am_hs 128) [641] && am_hps 128) = true := by decide +kernel
theorem am_hk129 : (am_hes 129 (am_hh 129) (am_hs 129) [641, 735] && am_hps 129) = true := by decide +kernel
theorem am_hk130 : (am_hes 130 (am_hh 130) (am_hs 130) [735] && am_hps 130) = true := by decide +kernel
theorem am_hk131 : (am_hes 131 (am_hh 131) (am_hs 131) [641, 735] && am_hps 131) = true := by decide +kernel
theorem am_hk132 : (am_hes 132 (am_hh 132) (am_hs 132) [641, 674] && am_hps 132) = true := by decide +kernel
theorem am_hk133 : (am_hes 133 (am_hh 133) (am_hs 133) [641, 735] && am_hps 133) = true := by decide +kernel
theorem am_hk134 : (am_hes 134 (am_hh 134) (am_hs 134) [641, 735] && am_hps 134) = true := by decide +kernel
theorem am_hk135 : (am_hes 135 (am_hh 135) (am_hs 135) [735] && am_hps 135) = true := by decide +kernel
theorem am_hk136 : (am_hes 136 (am_hh 136) (am_hs 136) [812] && am_hps 136) = true := by decide +kernel
theorem am_hk137 : (am_hes 137 (am_hh 137) (am_hs 137) [674, 378] && am_hps 137) = true := by decide +kernel
theorem am_hk138 : (am_hes 138 (am_hh 138) (am_hs 138) [674, 735] && am_hps 138) = true := by decide +kernel
theorem am_hk139 : (am_hes 139 (am_hh 139) (am_hs 139) [641] && am_hps 139) = true := by decide +kernel
theorem am_hk140 : (am_hes 140 (am_hh 140) (am_hs 140) [641] && am_hps 140) = true := by decide +kernel
theorem am_hk141 : (am_hes 141 (am_hh 141) (am_hs 141) [891] && am_hps 141) = true := by decide +kernel
theorem am_hk142 : (am_hes 142 (am_hh 142) (am_hs 142) [891] && am_hps 142) = true := by decide +kernel
theorem am_hk143 : (am_hes 143 (am_hh 143) (am_hs 143) [674] && am_hps 143) = true := by decide +kernel
theorem am_hk144 : (am_hes 144 (am_hh 144) (am_hs 144) [812] && am_hps 144) = true := by decide +kernel
theorem am_hk145 : (am_hes 145 (am_hh 145) (am_hs 145) [812] && am_hps 145) = true := by decide +kernel
theorem am_hk146 : (am_hes 146 (am_hh 146) (am_hs 146) [641, 735] && am_hps 146) = true := by decide +kernel
theorem am_hk_ok : ∀ z, ∃ is, (am_hes z (am_hh z) (am_hs z) is && am_hps z) = true := fun z => match z with
  | 0 => ⟨[], rfl⟩
  | 1 => ⟨[], rfl⟩
  | 2 => ⟨[], rfl⟩
  | 3 => ⟨[], rfl⟩
  | 4 => ⟨[], rfl⟩
  | 5 => ⟨[], rfl⟩
  | 6 => ⟨[], rfl⟩
  | 7 => ⟨[], rfl⟩
  | 8 => ⟨[], rfl⟩
  | 9 => ⟨[], rfl⟩
  | 10 => ⟨[], rfl⟩
  | 11 => ⟨[], rfl⟩
  | 12 => ⟨[], rfl⟩
  | 13 => ⟨[], rfl⟩
  | 14 => ⟨[], rfl⟩
  | 15 => ⟨[], rfl⟩
  | 16 => ⟨[], rfl⟩
  | 17 => ⟨[], rfl⟩
  | 18 => ⟨[], rfl⟩
  | 19 => ⟨[], rfl⟩
  | 20 => ⟨[], rfl⟩
  | 21 => ⟨[], rfl⟩
  | 22 => ⟨[], rfl⟩
  | 23 => ⟨[], rfl⟩
  | 24 => ⟨[], rfl⟩
  | 25 => ⟨[], rfl⟩
  | 26 => ⟨[], rfl⟩
  | 27 => ⟨[], rfl⟩
  | 28 => ⟨[], rfl⟩
  | 29 => ⟨[], rfl⟩
  | 30 => ⟨[], rfl⟩
  | 31 => ⟨[], rfl⟩
  | 32 => ⟨[], rfl⟩
  | 33 => ⟨[], rfl⟩
  | 34 => ⟨[], rfl⟩
  | 35 => ⟨[], rfl⟩
  | 36 => ⟨[], rfl⟩
  | 37 => ⟨[], rfl⟩
  | 38 => ⟨[], rfl⟩
  | 39 => ⟨[], rfl⟩
  | 40 => ⟨[], rfl⟩
  | 41 => ⟨[], rfl⟩
  | 42 => ⟨[], rfl⟩
  | 43 => ⟨[], rfl⟩
  | 44 => ⟨[], rfl⟩
  | 45 => ⟨[], rfl⟩
  | 46 => ⟨[], rfl⟩
  | 47 => ⟨[], rfl⟩
  | 48 => ⟨[], rfl⟩
  | 49 => ⟨[], rfl⟩
  | 50 => ⟨[], rfl⟩
  | 51 => ⟨[], rfl⟩
  | 52 => ⟨[], rfl⟩
  | 53 => ⟨[], rfl⟩
  | 54 => ⟨[], rfl⟩
  | 55 => ⟨[], rfl⟩
  | 56 => ⟨[], rfl⟩
  | 57 => ⟨[], rfl⟩
  | 58 => ⟨[], rfl⟩
  | 59 => ⟨[], rfl⟩
  | 60 => ⟨[], rfl⟩
  | 61 => ⟨[], rfl⟩
  | 62 => ⟨[], rfl⟩
  | 63 => ⟨[], rfl⟩
  | 64 => ⟨[], rfl⟩
  | 65 => ⟨[], rfl⟩
  | 66 => ⟨[], rfl⟩
  | 67 => ⟨[], rfl⟩
  | 68 => ⟨[], rfl⟩
  | 69 => ⟨[], rfl⟩
  | 70 => ⟨[], rfl⟩
  | 71 => ⟨[], rfl⟩
  | 72 => ⟨[], rfl⟩
  | 73 => ⟨[], rfl⟩
  | 74 => ⟨[], rfl⟩
  | 75 => ⟨[], rfl⟩
  | 76 => ⟨[], rfl⟩
  | 77 => ⟨[], rfl⟩
  | 78 => ⟨[], rfl⟩
  | 79 => ⟨[], rfl⟩
  | 80 => ⟨[], rfl⟩
  | 81 => ⟨[], rfl⟩
  | 82 => ⟨[], rfl⟩
  | 83 => ⟨[], rfl⟩
  | 84 => ⟨[], rfl⟩
  | 85 => ⟨[], rfl⟩
  | 86 => ⟨[], rfl⟩
  | 87 => ⟨[], rfl⟩
  | 88 => ⟨[], rfl⟩
  | 89 => ⟨[], rfl⟩
  | 90 => ⟨[], rfl⟩
  | 91 => ⟨[], rfl⟩
  | 92 => ⟨[], rfl⟩
  | 93 => ⟨[], rfl⟩
  | 94 => ⟨[], rfl⟩
  | 95 => ⟨[], rfl⟩
  | 96 => ⟨[], rfl⟩
  | 97 => ⟨[], rfl⟩
  | 98 => ⟨[], rfl⟩
  | 99 => ⟨[], rfl⟩
  | 100 => ⟨[], rfl⟩
  | 101 => ⟨[], rfl⟩
  | 102 => ⟨[], rfl⟩
  | 103 => ⟨[], rfl⟩
  | 104 => ⟨[], rfl⟩
  | 105 => ⟨[], rfl⟩
  | 106 => ⟨[], rfl⟩
  | 107 => ⟨[], rfl⟩
  | 108 => ⟨[], rfl⟩
  | 109 => ⟨[], rfl⟩
  | 110 => ⟨[], rfl⟩
  | 111 => ⟨[], rfl⟩
  | 112 => ⟨[], rfl⟩
  | 113 => ⟨[], rfl⟩
  | 114 => ⟨[], rfl⟩
  | 115 => ⟨_, am_hk115⟩
  | 116 => ⟨_, am_hk116⟩
  | 117 => ⟨_, am_hk117⟩
  | 118 => ⟨_, am_hk118⟩
  | 119 => ⟨_, am_hk119⟩
  | 120 => ⟨_, am_hk120⟩
  | 121 => ⟨_, am_hk121⟩
  | 122 => ⟨_, am_hk122⟩
  | 123 => ⟨_, am_hk123⟩
  | 124 => ⟨_, am_hk124⟩
  | 125 => ⟨_, am_hk125⟩
  | 126 => ⟨_, am_hk126⟩
  | 127 => ⟨_, am_hk127⟩
  | 128 => ⟨_, am_hk128⟩
  | 129 => ⟨_, am_hk129⟩
  | 130 => ⟨_, am_hk130⟩
  | 131 => ⟨_, am_hk131⟩
  | 132 => ⟨_, am_hk132⟩
  | 133 => ⟨_, am_hk133⟩
  | 134 => ⟨_, am_hk134⟩
  | 135 => ⟨_, am_hk135⟩
  | 136 => ⟨_, am_hk136⟩
  | 137 => ⟨_, am_hk137⟩
  | 138 => ⟨_, am_hk138⟩
  | 139 => ⟨_, am_hk139⟩
  | 140 => ⟨_, am_hk140⟩
  | 141 => ⟨_, am_hk141⟩
  | 142 => ⟨_, am_hk142⟩
  | 143 => ⟨_, am_hk143⟩
  | 144 => ⟨_, am_hk144⟩
  | 145 => ⟨_, am_hk145⟩
  | 146 => ⟨_, am_hk146⟩
  | 147 => ⟨[], rfl⟩
  | 148 => ⟨[], rfl⟩
  | 149 => ⟨[], rfl⟩
  | 150 => ⟨[], rfl⟩
  | 151 => ⟨[], rfl⟩
  | 152 => ⟨[], rfl⟩
  | 153 => ⟨[], rfl⟩
  | 154 => ⟨[], rfl⟩
  | 155 => ⟨[], rfl⟩
  | 156 => ⟨[], rfl⟩
  | 157 => ⟨[], rfl⟩
  | 158 => ⟨[], rfl⟩
  | 159 => ⟨[], rfl⟩
  | 160 => ⟨[], rfl⟩
  | 161 => ⟨[], rfl⟩
  | 162 => ⟨[], rfl⟩
  | 163 => ⟨[], rfl⟩
  | 164 => ⟨[], rfl⟩
  | 165 => ⟨[], rfl⟩
  | 166 => ⟨[], rfl⟩
  | 167 => ⟨[], rfl⟩
  | 168 => ⟨[], rfl⟩
  | 169 => ⟨[], rfl⟩
  | 170 => ⟨[], rfl⟩
  | 171 => ⟨[], rfl⟩
  | 172 => ⟨[], rfl⟩
  | 173 => ⟨[], rfl⟩
  | 174 => ⟨[], rfl⟩
  | 175 => ⟨[], rfl⟩
  | 176 => ⟨[], rfl⟩
  | 177 => ⟨[], rfl⟩
  | 178 => ⟨[], rfl⟩
  | 179 => ⟨[], rfl⟩
  | 180 => ⟨[], rfl⟩
  | 181 => ⟨[], rfl⟩
  | 182 => ⟨[], rfl⟩
  | 183 => ⟨[], rfl⟩
  | 184 => ⟨[], rfl⟩
  | 185 => ⟨[], rfl⟩
  | 186 => ⟨[], rfl⟩
  | 187 => ⟨[], rfl⟩
  | 188 => ⟨[], rfl⟩
  | 189 => ⟨[], rfl⟩
  | 190 => ⟨[], rfl⟩
  | 191 => ⟨[], rfl⟩
  | 192 => ⟨[], rfl⟩
  | 193 => ⟨[], rfl⟩
  | 194 => ⟨[], rfl⟩
  | 195 => ⟨[], rfl⟩
  | 196 => ⟨[], rfl⟩
  | 197 => ⟨[], rfl⟩
  | 198 => ⟨[], rfl⟩
  | 199 => ⟨[], rfl⟩
  | 200 => ⟨[], rfl⟩
  | 201 => ⟨[], rfl⟩
  | 202 => ⟨[], rfl⟩
  | 203 => ⟨[], rfl⟩
  | 204 => ⟨[], rfl⟩
  | 205 => ⟨[], rfl⟩
  | 206 => ⟨[], rfl⟩
  | 207 => ⟨[], rfl⟩
  | 208 => ⟨[], rfl⟩
  | 209 => ⟨[], rfl⟩
  | 210 => ⟨[], rfl⟩
  | 211 => ⟨[], rfl⟩
  | 212 => ⟨[], rfl⟩
  | 213 => ⟨[], rfl⟩
  | 214 => ⟨[], rfl⟩
  | 215 => ⟨[], rfl⟩
  | 216 => ⟨[], rfl⟩
  | 217 => ⟨[], rfl⟩
  | 218 => ⟨[], rfl⟩
  | 219 => ⟨[], rfl⟩
  | 220 => ⟨[], rfl⟩
  | 221 => ⟨[], rfl⟩
  | 222 => ⟨[], rfl⟩
  | 223 => ⟨[], rfl⟩
  | 224 => ⟨[], rfl⟩
  | 225 => ⟨[], rfl⟩
  | 226 => ⟨[], rfl⟩
  | 227 => ⟨[], rfl⟩
  | 228 => ⟨[], rfl⟩
  | 229 => ⟨[], rfl⟩
  | 230 => ⟨[], rfl⟩
  | 231 => ⟨[], rfl⟩
  | _ + 232 => ⟨[], rfl⟩
theorem am_cas_ok : am_al2 (fun (k i : Nat) => am_at i (.castable (am_en k) (am_en k))) (List.range 6) [547, 686, 703, 742, 819, 903] = true := by decide +kernel
def am_ln : Instr → Nat := fun i => match i with
  | .iload _ | .aload _ | .fload _ | .dload _ | .lload _ | .lstore _ | .istore _ | .astore _ | .fstore _ | .dstore _ | .bipush _ | .ldc _ | .newarray _ => 2
  | .iinc _ _ | .sipush _ | .ldc_w _ | .ldc2_w _ | .goto _ | .ifCond _ _ | .if_icmp _ _ | .getfield _ | .putfield _ | .invokevirtual _ | .invokespecial _ | .invokestatic _ | .new _ | .anewarray _ => 3
  | .tableswitch _ _ _ _ | .lookupswitch _ _ => 0
  | _ => 1
def am_dok (b : ByteArray) (q : Nat × Instr) : Bool := match decode b q.1 with
  | .ok (i, n) => decide (i = q.2) && (am_ln q.2 == 0 || am_ln q.2 == n)
  | _ => false
theorem am_dk0 : (am_code 0).all (am_dok (am_by 0)) = true := by decide +kernel
theorem am_dk1 : (am_code 1).all (am_dok (am_by 1)) = true := by decide +kernel
theorem am_dk2 : (am_code 2).all (am_dok (am_by 2)) = true := by decide +kernel
theorem am_dk3 : (am_code 3).all (am_dok (am_by 3)) = true := by decide +kernel
theorem am_dk4 : (am_code 4).all (am_dok (am_by 4)) = true := by decide +kernel
theorem am_dk5 : (am_code 5).all (am_dok (am_by 5)) = true := by decide +kernel
theorem am_dk6 : (am_code 6).all (am_dok (am_by 6)) = true := by decide +kernel
theorem am_dk7 : (am_code 7).all (am_dok (am_by 7)) = true := by decide +kernel
theorem am_dk8 : (am_code 8).all (am_dok (am_by 8)) = true := by decide +kernel
theorem am_dk9 : (am_code 9).all (am_dok (am_by 9)) = true := by decide +kernel
theorem am_dk10 : (am_code 10).all (am_dok (am_by 10)) = true := by decide +kernel
theorem am_dk11 : (am_code 11).all (am_dok (am_by 11)) = true := by decide +kernel
theorem am_dk12 : (am_code 12).all (am_dok (am_by 12)) = true := by decide +kernel
theorem am_dk13 : (am_code 13).all (am_dok (am_by 13)) = true := by decide +kernel
theorem am_dk14 : (am_code 14).all (am_dok (am_by 14)) = true := by decide +kernel
theorem am_dk15 : (am_code 15).all (am_dok (am_by 15)) = true := by decide +kernel
theorem am_dk16 : (am_code 16).all (am_dok (am_by 16)) = true := by decide +kernel
theorem am_dk17 : (am_code 17).all (am_dok (am_by 17)) = true := by decide +kernel
theorem am_dk18 : (am_code 18).all (am_dok (am_by 18)) = true := by decide +kernel
theorem am_dk19 : (am_code 19).all (am_dok (am_by 19)) = true := by decide +kernel
theorem am_dk20 : (am_code 20).all (am_dok (am_by 20)) = true := by decide +kernel
theorem am_dk21 : (am_code 21).all (am_dok (am_by 21)) = true := by decide +kernel
theorem am_dk22 : (am_code 22).all (am_dok (am_by 22)) = true := by decide +kernel
theorem am_dk23 : (am_code 23).all (am_dok (am_by 23)) = true := by decide +kernel
theorem am_dk24 : (am_code 24).all (am_dok (am_by 24)) = true := by decide +kernel
theorem am_dk25 : (am_code 25).all (am_dok (am_by 25)) = true := by decide +kernel
theorem am_dk26 : (am_code 26).all (am_dok (am_by 26)) = true := by decide +kernel
theorem am_dk27 : (am_code 27).all (am_dok (am_by 27)) = true := by decide +kernel
theorem am_dk28 : (am_code 28).all (am_dok (am_by 28)) = true := by decide +kernel
theorem am_dk29 : (am_code 29).all (am_dok (am_by 29)) = true := by decide +kernel
theorem am_dk30 : (am_code 30).all (am_dok (am_by 30)) = true := by decide +kernel
theorem am_dk31 : (am_code 31).all (am_dok (am_by 31)) = true := by decide +kernel
theorem am_dk32 : (am_code 32).all (am_dok (am_by 32)) = true := by decide +kernel
theorem am_dk33 : (am_code 33).all (am_dok (am_by 33)) = true := by decide +kernel
theorem am_dk34 : (am_code 34).all (am_dok (am_by 34)) = true := by decide +kernel
theorem am_dk35 : (am_code 35).all (am_dok (am_by 35)) = true := by decide +kernel
theorem am_dk36 : (am_code 36).all (am_dok (am_by 36)) = true := by decide +kernel
theorem am_dk37 : (am_code 37).all (am_dok (am_by 37)) = true := by decide +kernel
theorem am_dk38 : (am_code 38).all (am_dok (am_by 38)) = true := by decide +kernel
theorem am_dk39 : (am_code 39).all (am_dok (am_by 39)) = true := by decide +kernel
theorem am_dk40 : (am_code 40).all (am_dok (am_by 40)) = true := by decide +kernel
theorem am_dk41 : (am_code 41).all (am_dok (am_by 41)) = true := by decide +kernel
theorem am_dk42 : (am_code 42).all (am_dok (am_by 42)) = true := by decide +kernel
theorem am_dk43 : (am_code 43).all (am_dok (am_by 43)) = true := by decide +kernel
theorem am_dk44 : (am_code 44).all (am_dok (am_by 44)) = true := by decide +kernel
theorem am_dk45_0 : (am_c45_0).all (am_dok (am_by 45)) = true := by decide +kernel
theorem am_dk45_1 : (am_c45_1).all (am_dok (am_by 45)) = true := by decide +kernel
theorem am_dk45_2 : (am_c45_2).all (am_dok (am_by 45)) = true := by decide +kernel
theorem am_dk45 : (am_code 45).all (am_dok (am_by 45)) = true := by
  show (am_c45_0 ++ (am_c45_1 ++ (am_c45_2))).all _ = true
  simp only [List.all_append, am_dk45_0, am_dk45_1, am_dk45_2, Bool.and_self]
theorem am_dk46 : (am_code 46).all (am_dok (am_by 46)) = true := by decide +kernel
theorem am_dk47 : (am_code 47).all (am_dok (am_by 47)) = true := by decide +kernel
theorem am_dk48 : (am_code 48).all (am_dok (am_by 48)) = true := by decide +kernel
theorem am_dk49_0 : (am_c49_0).all (am_dok (am_by 49)) = true := by decide +kernel
theorem am_dk49_1 : (am_c49_1).all (am_dok (am_by 49)) = true := by decide +kernel
theorem am_dk49_2 : (am_c49_2).all (am_dok (am_by 49)) = true := by decide +kernel
theorem am_dk49 : (am_code 49).all (am_dok (am_by 49)) = true := by
  show (am_c49_0 ++ (am_c49_1 ++ (am_c49_2))).all _ = true
  simp only [List.all_append, am_dk49_0, am_dk49_1, am_dk49_2, Bool.and_self]
theorem am_dk50 : (am_code 50).all (am_dok (am_by 50)) = true := by decide +kernel
theorem am_dk51 : (am_code 51).all (am_dok (am_by 51)) = true := by decide +kernel
theorem am_dk52 : (am_code 52).all (am_dok (am_by 52)) = true := by decide +kernel
theorem am_dk53 : (am_code 53).all (am_dok (am_by 53)) = true := by decide +kernel
theorem am_dk54 : (am_code 54).all (am_dok (am_by 54)) = true := by decide +kernel
theorem am_dk55 : (am_code 55).all (am_dok (am_by 55)) = true := by decide +kernel
theorem am_dk56 : (am_code 56).all (am_dok (am_by 56)) = true := by decide +kernel
theorem am_dk57 : (am_code 57).all (am_dok (am_by 57)) = true := by decide +kernel
theorem am_dk58 : (am_code 58).all (am_dok (am_by 58)) = true := by decide +kernel
theorem am_dk59 : (am_code 59).all (am_dok (am_by 59)) = true := by decide +kernel
theorem am_dk60 : (am_code 60).all (am_dok (am_by 60)) = true := by decide +kernel
theorem am_dk61 : (am_code 61).all (am_dok (am_by 61)) = true := by decide +kernel
theorem am_dk62 : (am_code 62).all (am_dok (am_by 62)) = true := by decide +kernel
theorem am_dk63 : (am_code 63).all (am_dok (am_by 63)) = true := by decide +kernel
theorem am_dk64 : (am_code 64).all (am_dok (am_by 64)) = true := by decide +kernel
theorem am_dk65 : (am_code 65).all (am_dok (am_by 65)) = true := by decide +kernel
theorem am_dk66 : (am_code 66).all (am_dok (am_by 66)) = true := by decide +kernel
theorem am_dk67 : (am_code 67).all (am_dok (am_by 67)) = true := by decide +kernel
theorem am_dk68 : (am_code 68).all (am_dok (am_by 68)) = true := by decide +kernel
theorem am_dk69 : (am_code 69).all (am_dok (am_by 69)) = true := by decide +kernel
theorem am_dk70 : (am_code 70).all (am_dok (am_by 70)) = true := by decide +kernel
theorem am_dk71 : (am_code 71).all (am_dok (am_by 71)) = true := by decide +kernel
theorem am_dk72 : (am_code 72).all (am_dok (am_by 72)) = true := by decide +kernel
theorem am_dk73 : (am_code 73).all (am_dok (am_by 73)) = true := by decide +kernel
theorem am_dk74 : (am_code 74).all (am_dok (am_by 74)) = true := by decide +kernel
theorem am_dk75 : (am_code 75).all (am_dok (am_by 75)) = true := by decide +kernel
theorem am_dk76 : (am_code 76).all (am_dok (am_by 76)) = true := by decide +kernel
theorem am_dk77 : (am_code 77).all (am_dok (am_by 77)) = true := by decide +kernel
theorem am_dk78 : (am_code 78).all (am_dok (am_by 78)) = true := by decide +kernel
theorem am_dk79 : (am_code 79).all (am_dok (am_by 79)) = true := by decide +kernel
theorem am_dk80 : (am_code 80).all (am_dok (am_by 80)) = true := by decide +kernel
theorem am_dk81 : (am_code 81).all (am_dok (am_by 81)) = true := by decide +kernel
theorem am_dk82 : (am_code 82).all (am_dok (am_by 82)) = true := by decide +kernel
theorem am_dk83 : (am_code 83).all (am_dok (am_by 83)) = true := by decide +kernel
theorem am_dk84 : (am_code 84).all (am_dok (am_by 84)) = true := by decide +kernel
theorem am_dk85 : (am_code 85).all (am_dok (am_by 85)) = true := by decide +kernel
theorem am_dk86 : (am_code 86).all (am_dok (am_by 86)) = true := by decide +kernel
theorem am_dk87 : (am_code 87).all (am_dok (am_by 87)) = true := by decide +kernel
theorem am_dk88 : (am_code 88).all (am_dok (am_by 88)) = true := by decide +kernel
theorem am_dk89 : (am_code 89).all (am_dok (am_by 89)) = true := by decide +kernel
theorem am_dk90 : (am_code 90).all (am_dok (am_by 90)) = true := by decide +kernel
theorem am_dk91 : (am_code 91).all (am_dok (am_by 91)) = true := by decide +kernel
theorem am_dk92 : (am_code 92).all (am_dok (am_by 92)) = true := by decide +kernel
theorem am_dk93 : (am_code 93).all (am_dok (am_by 93)) = true := by decide +kernel
theorem am_dk94 : (am_code 94).all (am_dok (am_by 94)) = true := by decide +kernel
theorem am_dk95 : (am_code 95).all (am_dok (am_by 95)) = true := by decide +kernel
theorem am_dk96 : (am_code 96).all (am_dok (am_by 96)) = true := by decide +kernel
theorem am_dk97 : (am_code 97).all (am_dok (am_by 97)) = true := by decide +kernel
theorem am_dk98 : (am_code 98).all (am_dok (am_by 98)) = true := by decide +kernel
theorem am_dk99 : (am_code 99).all (am_dok (am_by 99)) = true := by decide +kernel
theorem am_dk100 : (am_code 100).all (am_dok (am_by 100)) = true := by decide +kernel
theorem am_dk101 : (am_code 101).all (am_dok (am_by 101)) = true := by decide +kernel
theorem am_dk102 : (am_code 102).all (am_dok (am_by 102)) = true := by decide +kernel
theorem am_dk103 : (am_code 103).all (am_dok (am_by 103)) = true := by decide +kernel
theorem am_dk104 : (am_code 104).all (am_dok (am_by 104)) = true := by decide +kernel
theorem am_dk105 : (am_code 105).all (am_dok (am_by 105)) = true := by decide +kernel
theorem am_dk106 : (am_code 106).all (am_dok (am_by 106)) = true := by decide +kernel
theorem am_dk107 : (am_code 107).all (am_dok (am_by 107)) = true := by decide +kernel
theorem am_dk108 : (am_code 108).all (am_dok (am_by 108)) = true := by decide +kernel
theorem am_dk109 : (am_code 109).all (am_dok (am_by 109)) = true := by decide +kernel
theorem am_dk110 : (am_code 110).all (am_dok (am_by 110)) = true := by decide +kernel
theorem am_dk111 : (am_code 111).all (am_dok (am_by 111)) = true := by decide +kernel
theorem am_dk112 : (am_code 112).all (am_dok (am_by 112)) = true := by decide +kernel
theorem am_dk113 : (am_code 113).all (am_dok (am_by 113)) = true := by decide +kernel
theorem am_dk114 : (am_code 114).all (am_dok (am_by 114)) = true := by decide +kernel
theorem am_dk115 : (am_code 115).all (am_dok (am_by 115)) = true := by decide +kernel
theorem am_dk116 : (am_code 116).all (am_dok (am_by 116)) = true := by decide +kernel
theorem am_dk117 : (am_code 117).all (am_dok (am_by 117)) = true := by decide +kernel
theorem am_dk118 : (am_code 118).all (am_dok (am_by 118)) = true := by decide +kernel
theorem am_dk119 : (am_code 119).all (am_dok (am_by 119)) = true := by decide +kernel
theorem am_dk120 : (am_code 120).all (am_dok (am_by 120)) = true := by decide +kernel
theorem am_dk121 : (am_code 121).all (am_dok (am_by 121)) = true := by decide +kernel
theorem am_dk122 : (am_code 122).all (am_dok (am_by 122)) = true := by decide +kernel
theorem am_dk123 : (am_code 123).all (am_dok (am_by 123)) = true := by decide +kernel
theorem am_dk124 : (am_code 124).all (am_dok (am_by 124)) = true := by decide +kernel
theorem am_dk125 : (am_code 125).all (am_dok (am_by 125)) = true := by decide +kernel
theorem am_dk126 : (am_code 126).all (am_dok (am_by 126)) = true := by decide +kernel
theorem am_dk127 : (am_code 127).all (am_dok (am_by 127)) = true := by decide +kernel
theorem am_dk128 : (am_code 128).all (am_dok (am_by 128)) = true := by decide +kernel
theorem am_dk129 : (am_code 129).all (am_dok (am_by 129)) = true := by decide +kernel
theorem am_dk130 : (am_code 130).all (am_dok (am_by 130)) = true := by decide +kernel
theorem am_dk131 : (am_code 131).all (am_dok (am_by 131)) = true := by decide +kernel
theorem am_dk132 : (am_code 132).all (am_dok (am_by 132)) = true := by decide +kernel
theorem am_dk133 : (am_code 133).all (am_dok (am_by 133)) = true := by decide +kernel
theorem am_dk134 : (am_code 134).all (am_dok (am_by 134)) = true := by decide +kernel
theorem am_dk135 : (am_code 135).all (am_dok (am_by 135)) = true := by decide +kernel
theorem am_dk136 : (am_code 136).all (am_dok (am_by 136)) = true := by decide +kernel
theorem am_dk137 : (am_code 137).all (am_dok (am_by 137)) = true := by decide +kernel
theorem am_dk138 : (am_code 138).all (am_dok (am_by 138)) = true := by decide +kernel
theorem am_dk139 : (am_code 139).all (am_dok (am_by 139)) = true := by decide +kernel
theorem am_dk140 : (am_code 140).all (am_dok (am_by 140)) = true := by decide +kernel
theorem am_dk141 : (am_code 141).all (am_dok (am_by 141)) = true := by decide +kernel
theorem am_dk142 : (am_code 142).all (am_dok (am_by 142)) = true := by decide +kernel
theorem am_dk143 : (am_code 143).all (am_dok (am_by 143)) = true := by decide +kernel
theorem am_dk144 : (am_code 144).all (am_dok (am_by 144)) = true := by decide +kernel
theorem am_dk145 : (am_code 145).all (am_dok (am_by 145)) = true := by decide +kernel
theorem am_dk146 : (am_code 146).all (am_dok (am_by 146)) = true := by decide +kernel
theorem am_dk147 : (am_code 147).all (am_dok (am_by 147)) = true := by decide +kernel
theorem am_dk148 : (am_code 148).all (am_dok (am_by 148)) = true := by decide +kernel
theorem am_dk149 : (am_code 149).all (am_dok (am_by 149)) = true := by decide +kernel
theorem am_dk150_0 : (am_c150_0).all (am_dok (am_by 150)) = true := by decide +kernel
theorem am_dk150_1 : (am_c150_1).all (am_dok (am_by 150)) = true := by decide +kernel
theorem am_dk150_2 : (am_c150_2).all (am_dok (am_by 150)) = true := by decide +kernel
theorem am_dk150 : (am_code 150).all (am_dok (am_by 150)) = true := by
  show (am_c150_0 ++ (am_c150_1 ++ (am_c150_2))).all _ = true
  simp only [List.all_append, am_dk150_0, am_dk150_1, am_dk150_2, Bool.and_self]
theorem am_dk151 : (am_code 151).all (am_dok (am_by 151)) = true := by decide +kernel
theorem am_dk152_0 : (am_c152_0).all (am_dok (am_by 152)) = true := by decide +kernel
theorem am_dk152_1 : (am_c152_1).all (am_dok (am_by 152)) = true := by decide +kernel
theorem am_dk152_2 : (am_c152_2).all (am_dok (am_by 152)) = true := by decide +kernel
theorem am_dk152_3 : (am_c152_3).all (am_dok (am_by 152)) = true := by decide +kernel
theorem am_dk152_4 : (am_c152_4).all (am_dok (am_by 152)) = true := by decide +kernel
theorem am_dk152_5 : (am_c152_5).all (am_dok (am_by 152)) = true := by decide +kernel
theorem am_dk152_6 : (am_c152_6).all (am_dok (am_by 152)) = true := by decide +kernel
theorem am_dk152 : (am_code 152).all (am_dok (am_by 152)) = true := by
  show (am_c152_0 ++ (am_c152_1 ++ (am_c152_2 ++ (am_c152_3 ++ (am_c152_4 ++ (am_c152_5 ++ (am_c152_6))))))).all _ = true
  simp only [List.all_append, am_dk152_0, am_dk152_1, am_dk152_2, am_dk152_3, am_dk152_4, am_dk152_5, am_dk152_6, Bool.and_self]
theorem am_dk153_0 : (am_c153_0).all (am_dok (am_by 153)) = true := by decide +kernel
theorem am_dk153_1 : (am_c153_1).all (am_dok (am_by 153)) = true := by decide +kernel
theorem am_dk153_2 : (am_c153_2).all (am_dok (am_by 153)) = true := by decide +kernel
theorem am_dk153_3 : (am_c153_3).all (am_dok (am_by 153)) = true := by decide +kernel
theorem am_dk153_4 : (am_c153_4).all (am_dok (am_by 153)) = true := by decide +kernel
theorem am_dk153_5 : (am_c153_5).all (am_dok (am_by 153)) = true := by decide +kernel
theorem am_dk153 : (am_code 153).all (am_dok (am_by 153)) = true := by
  show (am_c153_0 ++ (am_c153_1 ++ (am_c153_2 ++ (am_c153_3 ++ (am_c153_4 ++ (am_c153_5)))))).all _ = true
  simp only [List.all_append, am_dk153_0, am_dk153_1, am_dk153_2, am_dk153_3, am_dk153_4, am_dk153_5, Bool.and_self]
theorem am_dk154_0 : (am_c154_0).all (am_dok (am_by 154)) = true := by decide +kernel
theorem am_dk154_1 : (am_c154_1).all (am_dok (am_by 154)) = true := by decide +kernel
theorem am_dk154_2 : (am_c154_2).all (am_dok (am_by 154)) = true := by decide +kernel
theorem am_dk154_3 : (am_c154_3).all (am_dok (am_by 154)) = true := by decide +kernel
theorem am_dk154_4 : (am_c154_4).all (am_dok (am_by 154)) = true := by decide +kernel
theorem am_dk154_5 : (am_c154_5).all (am_dok (am_by 154)) = true := by decide +kernel
theorem am_dk154_6 : (am_c154_6).all (am_dok (am_by 154)) = true := by decide +kernel
theorem am_dk154_7 : (am_c154_7).all (am_dok (am_by 154)) = true := by decide +kernel
theorem am_dk154_8 : (am_c154_8).all (am_dok (am_by 154)) = true := by decide +kernel
theorem am_dk154_9 : (am_c154_9).all (am_dok (am_by 154)) = true := by decide +kernel
theorem am_dk154_10 : (am_c154_10).all (am_dok (am_by 154)) = true := by decide +kernel
theorem am_dk154 : (am_code 154).all (am_dok (am_by 154)) = true := by
  show (am_c154_0 ++ (am_c154_1 ++ (am_c154_2 ++ (am_c154_3 ++ (am_c154_4 ++ (am_c154_5 ++ (am_c154_6 ++ (am_c154_7 ++ (am_c154_8 ++ (am_c154_9 ++ (am_c154_10))))))))))).all _ = true
  simp only [List.all_append, am_dk154_0, am_dk154_1, am_dk154_2, am_dk154_3, am_dk154_4, am_dk154_5, am_dk154_6, am_dk154_7, am_dk154_8, am_dk154_9, am_dk154_10, Bool.and_self]
theorem am_dk228 : (am_code 228).all (am_dok (am_by 228)) = true := by decide +kernel
theorem am_dk229 : (am_code 229).all (am_dok (am_by 229)) = true := by decide +kernel
theorem am_dk230 : (am_code 230).all (am_dok (am_by 230)) = true := by decide +kernel
theorem am_dk231 : (am_code 231).all (am_dok (am_by 231)) = true := by decide +kernel
