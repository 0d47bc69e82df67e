/-! THE JDK's OWN METHODS: the bits of a double, of a float -/
abbrev jy_dnan : MethodName := ⟨"java/lang/Double", "isNaN", "(D)Z"⟩
abbrev jc_dnan : ByteArray := prog_20_method_6_code
abbrev jr_dnan : Option FieldType := (Option.some Jvm.ClassFile.FieldType.boolean)
abbrev jy_dbl : MethodName := ⟨"java/lang/Double", "doubleToLongBits", "(D)J"⟩
abbrev jc_dbl : ByteArray := prog_20_method_23_code
abbrev jr_dbl : Option FieldType := (Option.some Jvm.ClassFile.FieldType.long)
abbrev jy_fnan : MethodName := ⟨"java/lang/Float", "isNaN", "(F)Z"⟩
abbrev jc_fnan : ByteArray := prog_22_method_6_code
abbrev jr_fnan : Option FieldType := (Option.some Jvm.ClassFile.FieldType.boolean)
abbrev jy_flt : MethodName := ⟨"java/lang/Float", "floatToIntBits", "(F)I"⟩
abbrev jc_flt : ByteArray := prog_22_method_24_code
abbrev jr_flt : Option FieldType := (Option.some Jvm.ClassFile.FieldType.int)
theorem j_w1069 : Jvm.Cond.methodLink "java/lang/Double" (122 : Nat) ({ cls := "java/lang/Double", name := "isNaN", desc := "(D)Z" } : Jvm.MethodName) ∈ j_W := j_at_in (i := 1078) (by decide +kernel)
theorem j_w1070 : Jvm.Cond.static ({ cls := "java/lang/Double", name := "isNaN", desc := "(D)Z" } : Jvm.MethodName) ∈ j_W := j_at_in (i := 1079) (by decide +kernel)
theorem j_w26 : Jvm.Cond.initialized "java/lang/Double" ∈ j_W := j_at_in (i := 35) (by decide +kernel)
theorem j_w1071 : Jvm.Cond.code ({ cls := "java/lang/Double", name := "isNaN", desc := "(D)Z" } : Jvm.MethodName) prog_20_method_6_code (2 : Nat) (Option.some Jvm.ClassFile.FieldType.boolean) ∈ j_W := j_at_in (i := 1080) (by decide +kernel)
theorem j_w1072 : Jvm.Cond.methodLink "java/lang/Double" (134 : Nat) ({ cls := "java/lang/Double", name := "doubleToRawLongBits", desc := "(D)J" } : Jvm.MethodName) ∈ j_W := j_at_in (i := 1081) (by decide +kernel)
theorem j_w1074 : Jvm.Cond.native ({ cls := "java/lang/Double", name := "doubleToRawLongBits", desc := "(D)J" } : Jvm.MethodName) ∈ j_W := j_at_in (i := 1083) (by decide +kernel)
theorem j_w1073 : Jvm.Cond.static ({ cls := "java/lang/Double", name := "doubleToRawLongBits", desc := "(D)J" } : Jvm.MethodName) ∈ j_W := j_at_in (i := 1082) (by decide +kernel)
theorem j_w1087 : Jvm.Cond.methodLink "java/lang/Float" (59 : Nat) ({ cls := "java/lang/Float", name := "isNaN", desc := "(F)Z" } : Jvm.MethodName) ∈ j_W := j_at_in (i := 1096) (by decide +kernel)
theorem j_w1088 : Jvm.Cond.static ({ cls := "java/lang/Float", name := "isNaN", desc := "(F)Z" } : Jvm.MethodName) ∈ j_W := j_at_in (i := 1097) (by decide +kernel)
theorem j_w27 : Jvm.Cond.initialized "java/lang/Float" ∈ j_W := j_at_in (i := 36) (by decide +kernel)
theorem j_w1089 : Jvm.Cond.code ({ cls := "java/lang/Float", name := "isNaN", desc := "(F)Z" } : Jvm.MethodName) prog_22_method_6_code (1 : Nat) (Option.some Jvm.ClassFile.FieldType.boolean) ∈ j_W := j_at_in (i := 1098) (by decide +kernel)
theorem j_w1090 : Jvm.Cond.methodLink "java/lang/Float" (74 : Nat) ({ cls := "java/lang/Float", name := "floatToRawIntBits", desc := "(F)I" } : Jvm.MethodName) ∈ j_W := j_at_in (i := 1099) (by decide +kernel)
theorem j_w1092 : Jvm.Cond.native ({ cls := "java/lang/Float", name := "floatToRawIntBits", desc := "(F)I" } : Jvm.MethodName) ∈ j_W := j_at_in (i := 1101) (by decide +kernel)
theorem j_w1091 : Jvm.Cond.static ({ cls := "java/lang/Float", name := "floatToRawIntBits", desc := "(F)I" } : Jvm.MethodName) ∈ j_W := j_at_in (i := 1100) (by decide +kernel)
theorem dj_dnan_0 : decode jc_dnan 0 = .ok (.dload_n 0, 1) := by decide +kernel
theorem dj_dnan_1 : decode jc_dnan 1 = .ok (.dload_n 0, 1) := by decide +kernel
theorem dj_dnan_2 : decode jc_dnan 2 = .ok (.dcmp .l, 1) := by decide +kernel
theorem dj_dnan_3 : decode jc_dnan 3 = .ok (.ifCond .eq 7, 3) := by decide +kernel
theorem dj_dnan_10 : decode jc_dnan 10 = .ok (.iconst 0, 1) := by decide +kernel
theorem dj_dnan_11 : decode jc_dnan 11 = .ok (.ireturn, 1) := by decide +kernel
theorem dj_dbl_0 : decode jc_dbl 0 = .ok (.dload_n 0, 1) := by decide +kernel
theorem dj_dbl_1 : decode jc_dbl 1 = .ok (.invokestatic 122, 3) := by decide +kernel
theorem dj_dbl_4 : decode jc_dbl 4 = .ok (.ifCond .ne 8, 3) := by decide +kernel
theorem dj_dbl_7 : decode jc_dbl 7 = .ok (.dload_n 0, 1) := by decide +kernel
theorem dj_dbl_8 : decode jc_dbl 8 = .ok (.invokestatic 134, 3) := by decide +kernel
theorem dj_dbl_11 : decode jc_dbl 11 = .ok (.lreturn, 1) := by decide +kernel
theorem dj_fnan_0 : decode jc_fnan 0 = .ok (.fload_n 0, 1) := by decide +kernel
theorem dj_fnan_1 : decode jc_fnan 1 = .ok (.fload_n 0, 1) := by decide +kernel
theorem dj_fnan_2 : decode jc_fnan 2 = .ok (.fcmp .l, 1) := by decide +kernel
theorem dj_fnan_3 : decode jc_fnan 3 = .ok (.ifCond .eq 7, 3) := by decide +kernel
theorem dj_fnan_10 : decode jc_fnan 10 = .ok (.iconst 0, 1) := by decide +kernel
theorem dj_fnan_11 : decode jc_fnan 11 = .ok (.ireturn, 1) := by decide +kernel
theorem dj_flt_0 : decode jc_flt 0 = .ok (.fload_n 0, 1) := by decide +kernel
theorem dj_flt_1 : decode jc_flt 1 = .ok (.invokestatic 59, 3) := by decide +kernel
theorem dj_flt_4 : decode jc_flt 4 = .ok (.ifCond .ne 8, 3) := by decide +kernel
theorem dj_flt_7 : decode jc_flt 7 = .ok (.fload_n 0, 1) := by decide +kernel
theorem dj_flt_8 : decode jc_flt 8 = .ok (.invokestatic 74, 3) := by decide +kernel
theorem dj_flt_11 : decode jc_flt 11 = .ok (.ireturn, 1) := by decide +kernel
theorem jn_cmp (a : Int) : compare a a = .eq := by simp [compare, compareOfLessAndEq]
theorem jn_ord {d : FP.Core.Datum} (h : d ≠ .nan) : FP.Core.order d d = some .eq := by
  cases d with
  | nan => exact absurd rfl h
  | inf s => exact congrArg some (jn_cmp _)
  | fin s c q => exact congrArg some (jn_cmp _)
theorem jn_d {x : UInt64} (h : x &&& 0x7fffffffffffffff ≤ 0x7ff0000000000000) : FP.dcmp x x = some .eq := by
  have h1 : x.toNat % 9223372036854775808 ≤ 9218868437227405312 := by
    have := UInt64.le_iff_toNat_le.mp h
    rw [UInt64.toNat_and, show (0x7fffffffffffffff : UInt64).toNat = 2 ^ 63 - 1 from rfl, Nat.and_two_pow_sub_one_eq_mod] at this
    exact this
  refine jn_ord (d := FP.Core.decode FP.Core.b64 x.toNat) ?_
  unfold FP.Core.decode
  split
  · rename_i he
    split
    · intro q; cases q
    · rename_i ht
      exfalso
      have he : x.toNat / 4503599627370496 % 2048 = 2047 := he
      have ht : ¬ x.toNat % 4503599627370496 = 0 := ht
      omega
  · split <;> (intro q; cases q)
theorem jn_f {x : UInt32} (h : x &&& 0x7fffffff ≤ 0x7f800000) : FP.fcmp x x = some .eq := by
  have h1 : x.toNat % 2147483648 ≤ 2139095040 := by
    have := UInt32.le_iff_toNat_le.mp h
    rw [UInt32.toNat_and, show (0x7fffffff : UInt32).toNat = 2 ^ 31 - 1 from rfl, Nat.and_two_pow_sub_one_eq_mod] at this
    exact this
  refine jn_ord (d := FP.Core.decode FP.Core.b32 x.toNat) ?_
  unfold FP.Core.decode
  split
  · rename_i he
    split
    · intro q; cases q
    · rename_i ht
      exfalso
      have he : x.toNat / 8388608 % 256 = 255 := he
      have ht : ¬ x.toNat % 8388608 = 0 := ht
      omega
  · split <;> (intro q; cases q)
theorem j_nil {P : Loc → Prop} : ∀ q ∈ ([] : List Loc), P q := fun q hq => absurd hq List.not_mem_nil
section JN
variable (l : Launch) {u0 : State} {H0 : Heap}
theorem mj_dnan {x : UInt64} (h : x &&& 0x7fffffffffffffff ≤ 0x7ff0000000000000) : jM l jy_dnan jc_dnan 2 jr_dnan 0 0 0 0 u0 H0 [.double x] (fun _ => False) (fun v H => v = some (.int 0) ∧ H = H0) := by
  refine jM.of (by decide +kernel) (Nat.le_of_ble_eq_true rfl) ?_
  rintro p e s m below meth c ls ⟨hx, hb, hr, hml, hts, hown, hlk, hal, hh⟩ hl
  have hl : lv_has ls 2 [(0, .double x)] := hl
  refine lv_dload_n hx hb dj_dnan_0 rfl (lv_at hl 0 rfl) ?_
  refine lv_dload_n hx hb dj_dnan_1 rfl (lv_at hl 0 rfl) ?_
  refine lv_dcmp hx hb dj_dnan_2 ?_
  rw [jn_d h]
  refine lv_if_eq (tgt := 10) hx hb dj_dnan_3 (by decide) (fun _ => ?_) (fun q => absurd rfl q)
  refine lv_iconst (v := 0) hx hb dj_dnan_10 (by decide) ?_
  exact jret_i hx hb hr rfl hlk ⟨rfl, hh⟩ j_nil (Nat.le_refl _) (Nat.le_refl _) dj_dnan_11
theorem mj_dbl {x : UInt64} (h : x &&& 0x7fffffffffffffff ≤ 0x7ff0000000000000) : jM l jy_dbl jc_dbl 2 jr_dbl 1 21 0 0 u0 H0 [.double x] (fun _ => False) (fun v H => v = some (.long x.toInt64) ∧ H = H0) := by
  refine jM.of (by decide +kernel) (Nat.le_of_ble_eq_true rfl) ?_
  rintro p e s m below meth c ls ⟨hx, hb, hr, hml, hts, hown, hlk, hal, hh⟩ hl
  have hl : lv_has ls 2 [(0, .double x)] := hl
  refine lv_dload_n hx hb dj_dbl_0 rfl (lv_at hl 0 rfl) ?_
  refine jS (av := [.double x]) (rest := []) (k := 1) (ix := 122) (mj_dnan l (u0 := s) (H0 := s.heap) h) hx hb (hml.trans hl.1.symm) hown hts (hts _ j_w1069) j_w1070 j_w26 j_w1071 (by decide) (by decide +kernel) rfl (by decide) (by decide) ⟨Nat.le_refl _, Nat.le_refl _⟩ (by decide) dj_dbl_1 ?_
  rintro v H1 L ⟨rfl, rfl⟩ hL
  refine lv_if_ne (tgt := 12) hx hb dj_dbl_4 (by decide) (fun q => absurd rfl q) (fun _ => ?_)
  refine lv_dload_n hx hb dj_dbl_7 rfl (lv_at hl 0 rfl) ?_
  refine vn_d2l hx hb (hml.trans hl.1.symm) hown (hts _ j_w1072) (hts _ j_w1074) (hts _ j_w1073) (hts _ j_w26) (by decide) (by decide) dj_dbl_8 ?_
  exact jret_l hx hb hr hlk ⟨rfl, hh⟩ hL (Nat.le_refl _) (Nat.le_refl _) dj_dbl_11
theorem mj_fnan {x : UInt32} (h : x &&& 0x7fffffff ≤ 0x7f800000) : jM l jy_fnan jc_fnan 1 jr_fnan 0 0 0 0 u0 H0 [.float x] (fun _ => False) (fun v H => v = some (.int 0) ∧ H = H0) := by
  refine jM.of (by decide +kernel) (Nat.le_of_ble_eq_true rfl) ?_
  rintro p e s m below meth c ls ⟨hx, hb, hr, hml, hts, hown, hlk, hal, hh⟩ hl
  have hl : lv_has ls 1 [(0, .float x)] := hl
  refine lv_fload_n hx hb dj_fnan_0 rfl (lv_at hl 0 rfl) ?_
  refine lv_fload_n hx hb dj_fnan_1 rfl (lv_at hl 0 rfl) ?_
  refine lv_fcmp hx hb dj_fnan_2 ?_
  rw [jn_f h]
  refine lv_if_eq (tgt := 10) hx hb dj_fnan_3 (by decide) (fun _ => ?_) (fun q => absurd rfl q)
  refine lv_iconst (v := 0) hx hb dj_fnan_10 (by decide) ?_
  exact jret_i hx hb hr rfl hlk ⟨rfl, hh⟩ j_nil (Nat.le_refl _) (Nat.le_refl _) dj_fnan_11
theorem mj_flt {x : UInt32} (h : x &&& 0x7fffffff ≤ 0x7f800000) : jM l jy_flt jc_flt 1 jr_flt 1 21 0 0 u0 H0 [.float x] (fun _ => False) (fun v H => v = some (.int x.toInt32) ∧ H = H0) := by
  refine jM.of (by decide +kernel) (Nat.le_of_ble_eq_true rfl) ?_
  rintro p e s m below meth c ls ⟨hx, hb, hr, hml, hts, hown, hlk, hal, hh⟩ hl
  have hl : lv_has ls 1 [(0, .float x)] := hl
  refine lv_fload_n hx hb dj_flt_0 rfl (lv_at hl 0 rfl) ?_
  refine jS (av := [.float x]) (rest := []) (k := 1) (ix := 59) (mj_fnan l (u0 := s) (H0 := s.heap) h) hx hb (hml.trans hl.1.symm) hown hts (hts _ j_w1087) j_w1088 j_w27 j_w1089 (by decide) (by decide +kernel) rfl (by decide) (by decide) ⟨Nat.le_refl _, Nat.le_refl _⟩ (by decide) dj_flt_1 ?_
  rintro v H1 L ⟨rfl, rfl⟩ hL
  refine lv_if_ne (tgt := 12) hx hb dj_flt_4 (by decide) (fun q => absurd rfl q) (fun _ => ?_)
  refine lv_fload_n hx hb dj_flt_7 rfl (lv_at hl 0 rfl) ?_
  refine vn_f2i hx hb (hml.trans hl.1.symm) hown (hts _ j_w1090) (hts _ j_w1092) (hts _ j_w1091) (hts _ j_w27) (by decide) (by decide) dj_flt_8 ?_
  exact jret_i hx hb hr rfl hlk ⟨rfl, hh⟩ hL (Nat.le_refl _) (Nat.le_refl _) dj_flt_11
end JN
