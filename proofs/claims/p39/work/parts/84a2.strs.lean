/-! THE JDK's OWN METHODS: a String's length, a String's letter -/
abbrev jy_scod : MethodName := ⟨"java/lang/String", "coder", "()B"⟩
abbrev jc_scod : ByteArray := prog_30_method_152_code
abbrev jr_scod : Option FieldType := (Option.some Jvm.ClassFile.FieldType.byte)
abbrev jy_slen : MethodName := ⟨"java/lang/String", "length", "()I"⟩
abbrev jc_slen : ByteArray := prog_30_method_54_code
abbrev jr_slen : Option FieldType := (Option.some Jvm.ClassFile.FieldType.int)
abbrev jy_slat : MethodName := ⟨"java/lang/String", "isLatin1", "()Z"⟩
abbrev jc_slat : ByteArray := prog_30_method_154_code
abbrev jr_slat : Option FieldType := (Option.some Jvm.ClassFile.FieldType.boolean)
abbrev jy_pchk : MethodName := ⟨"jdk/internal/util/Preconditions", "checkIndex", "(IILjava/util/function/BiFunction;)I"⟩
abbrev jc_pchk : ByteArray := prog_42_method_11_code
abbrev jr_pchk : Option FieldType := (Option.some Jvm.ClassFile.FieldType.int)
abbrev jy_schk : MethodName := ⟨"java/lang/String", "checkIndex", "(II)V"⟩
abbrev jc_schk : ByteArray := prog_30_method_155_code
abbrev jr_schk : Option FieldType := (Option.none : Option Jvm.ClassFile.FieldType)
abbrev jy_lch : MethodName := ⟨"java/lang/StringLatin1", "charAt", "([BI)C"⟩
abbrev jc_lch : ByteArray := prog_32_method_2_code
abbrev jr_lch : Option FieldType := (Option.some Jvm.ClassFile.FieldType.char)
abbrev jy_sch : MethodName := ⟨"java/lang/String", "charAt", "(I)C"⟩
abbrev jc_sch : ByteArray := prog_30_method_56_code
abbrev jr_sch : Option FieldType := (Option.some Jvm.ClassFile.FieldType.char)
theorem j_w995 : Jvm.Cond.fieldLink "java/lang/String" (38 : Nat) "java/lang/String" "COMPACT_STRINGS" "Z" ∈ j_W := j_at_in (i := 1004) (by decide +kernel)
theorem j_w1368 : Jvm.Cond.fieldLink "java/lang/String" (15 : Nat) "java/lang/String" "coder" "B" ∈ j_W := j_at_in (i := 1377) (by decide +kernel)
theorem j_w1367 : Jvm.Cond.fieldLink "java/lang/String" (9 : Nat) "java/lang/String" "value" "[B" ∈ j_W := j_at_in (i := 1376) (by decide +kernel)
theorem j_w991 : Jvm.Cond.methodLink "java/lang/String" (335 : Nat) ({ cls := "java/lang/String", name := "coder", desc := "()B" } : Jvm.MethodName) ∈ j_W := j_at_in (i := 1000) (by decide +kernel)
theorem j_w992 : Jvm.Cond.instanceMethod ({ cls := "java/lang/String", name := "coder", desc := "()B" } : Jvm.MethodName) ∈ j_W := j_at_in (i := 1001) (by decide +kernel)
theorem j_w20 : Jvm.Cond.initialized "java/lang/String" ∈ j_W := j_at_in (i := 29) (by decide +kernel)
theorem j_w994 : Jvm.Cond.code ({ cls := "java/lang/String", name := "coder", desc := "()B" } : Jvm.MethodName) prog_30_method_152_code (1 : Nat) (Option.some Jvm.ClassFile.FieldType.byte) ∈ j_W := j_at_in (i := 1003) (by decide +kernel)
theorem j_w993 : Jvm.Cond.selects "java/lang/String" ({ cls := "java/lang/String", name := "coder", desc := "()B" } : Jvm.MethodName) ({ cls := "java/lang/String", name := "coder", desc := "()B" } : Jvm.MethodName) ∈ j_W := j_at_in (i := 1002) (by decide +kernel)
theorem j_w1018 : Jvm.Cond.fieldLink "java/lang/String" (1053 : Nat) "jdk/internal/util/Preconditions" "SIOOBE_FORMATTER" "Ljava/util/function/BiFunction;" ∈ j_W := j_at_in (i := 1027) (by decide +kernel)
theorem j_w1020 : Jvm.Cond.methodLink "java/lang/String" (1059 : Nat) ({ cls := "jdk/internal/util/Preconditions", name := "checkIndex", desc := "(IILjava/util/function/BiFunction;)I" } : Jvm.MethodName) ∈ j_W := j_at_in (i := 1029) (by decide +kernel)
theorem j_w1021 : Jvm.Cond.static ({ cls := "jdk/internal/util/Preconditions", name := "checkIndex", desc := "(IILjava/util/function/BiFunction;)I" } : Jvm.MethodName) ∈ j_W := j_at_in (i := 1030) (by decide +kernel)
theorem j_w22 : Jvm.Cond.initialized "jdk/internal/util/Preconditions" ∈ j_W := j_at_in (i := 31) (by decide +kernel)
theorem j_w1022 : Jvm.Cond.code ({ cls := "jdk/internal/util/Preconditions", name := "checkIndex", desc := "(IILjava/util/function/BiFunction;)I" } : Jvm.MethodName) prog_42_method_11_code (3 : Nat) (Option.some Jvm.ClassFile.FieldType.int) ∈ j_W := j_at_in (i := 1031) (by decide +kernel)
theorem j_w1015 : Jvm.Cond.methodLink "java/lang/StringLatin1" (9 : Nat) ({ cls := "java/lang/String", name := "checkIndex", desc := "(II)V" } : Jvm.MethodName) ∈ j_W := j_at_in (i := 1024) (by decide +kernel)
theorem j_w1016 : Jvm.Cond.static ({ cls := "java/lang/String", name := "checkIndex", desc := "(II)V" } : Jvm.MethodName) ∈ j_W := j_at_in (i := 1025) (by decide +kernel)
theorem j_w1017 : Jvm.Cond.code ({ cls := "java/lang/String", name := "checkIndex", desc := "(II)V" } : Jvm.MethodName) prog_30_method_155_code (2 : Nat) (Option.none : Option Jvm.ClassFile.FieldType) ∈ j_W := j_at_in (i := 1026) (by decide +kernel)
theorem j_w1008 : Jvm.Cond.methodLink "java/lang/String" (492 : Nat) ({ cls := "java/lang/String", name := "isLatin1", desc := "()Z" } : Jvm.MethodName) ∈ j_W := j_at_in (i := 1017) (by decide +kernel)
theorem j_w1009 : Jvm.Cond.instanceMethod ({ cls := "java/lang/String", name := "isLatin1", desc := "()Z" } : Jvm.MethodName) ∈ j_W := j_at_in (i := 1018) (by decide +kernel)
theorem j_w1011 : Jvm.Cond.code ({ cls := "java/lang/String", name := "isLatin1", desc := "()Z" } : Jvm.MethodName) prog_30_method_154_code (1 : Nat) (Option.some Jvm.ClassFile.FieldType.boolean) ∈ j_W := j_at_in (i := 1020) (by decide +kernel)
theorem j_w1010 : Jvm.Cond.selects "java/lang/String" ({ cls := "java/lang/String", name := "isLatin1", desc := "()Z" } : Jvm.MethodName) ({ cls := "java/lang/String", name := "isLatin1", desc := "()Z" } : Jvm.MethodName) ∈ j_W := j_at_in (i := 1019) (by decide +kernel)
theorem j_w1012 : Jvm.Cond.methodLink "java/lang/String" (495 : Nat) ({ cls := "java/lang/StringLatin1", name := "charAt", desc := "([BI)C" } : Jvm.MethodName) ∈ j_W := j_at_in (i := 1021) (by decide +kernel)
theorem j_w1013 : Jvm.Cond.static ({ cls := "java/lang/StringLatin1", name := "charAt", desc := "([BI)C" } : Jvm.MethodName) ∈ j_W := j_at_in (i := 1022) (by decide +kernel)
theorem j_w21 : Jvm.Cond.initialized "java/lang/StringLatin1" ∈ j_W := j_at_in (i := 30) (by decide +kernel)
theorem j_w1014 : Jvm.Cond.code ({ cls := "java/lang/StringLatin1", name := "charAt", desc := "([BI)C" } : Jvm.MethodName) prog_32_method_2_code (2 : Nat) (Option.some Jvm.ClassFile.FieldType.char) ∈ j_W := j_at_in (i := 1023) (by decide +kernel)
theorem dj_scod_0 : decode jc_scod 0 = .ok (.getstatic 38, 3) := by decide +kernel
theorem dj_scod_3 : decode jc_scod 3 = .ok (.ifCond .eq 10, 3) := by decide +kernel
theorem dj_scod_6 : decode jc_scod 6 = .ok (.aload_n 0, 1) := by decide +kernel
theorem dj_scod_7 : decode jc_scod 7 = .ok (.getfield 15, 3) := by decide +kernel
theorem dj_scod_10 : decode jc_scod 10 = .ok (.goto 4, 3) := by decide +kernel
theorem dj_scod_14 : decode jc_scod 14 = .ok (.ireturn, 1) := by decide +kernel
theorem dj_slen_0 : decode jc_slen 0 = .ok (.aload_n 0, 1) := by decide +kernel
theorem dj_slen_1 : decode jc_slen 1 = .ok (.getfield 9, 3) := by decide +kernel
theorem dj_slen_4 : decode jc_slen 4 = .ok (.arraylength, 1) := by decide +kernel
theorem dj_slen_5 : decode jc_slen 5 = .ok (.aload_n 0, 1) := by decide +kernel
theorem dj_slen_6 : decode jc_slen 6 = .ok (.invokevirtual 335, 3) := by decide +kernel
theorem dj_slen_9 : decode jc_slen 9 = .ok (.ishr, 1) := by decide +kernel
theorem dj_slen_10 : decode jc_slen 10 = .ok (.ireturn, 1) := by decide +kernel
theorem dj_slat_0 : decode jc_slat 0 = .ok (.getstatic 38, 3) := by decide +kernel
theorem dj_slat_3 : decode jc_slat 3 = .ok (.ifCond .eq 14, 3) := by decide +kernel
theorem dj_slat_6 : decode jc_slat 6 = .ok (.aload_n 0, 1) := by decide +kernel
theorem dj_slat_7 : decode jc_slat 7 = .ok (.getfield 15, 3) := by decide +kernel
theorem dj_slat_10 : decode jc_slat 10 = .ok (.ifCond .ne 7, 3) := by decide +kernel
theorem dj_slat_13 : decode jc_slat 13 = .ok (.iconst 1, 1) := by decide +kernel
theorem dj_slat_14 : decode jc_slat 14 = .ok (.goto 4, 3) := by decide +kernel
theorem dj_slat_18 : decode jc_slat 18 = .ok (.ireturn, 1) := by decide +kernel
theorem dj_pchk_0 : decode jc_pchk 0 = .ok (.iload_n 0, 1) := by decide +kernel
theorem dj_pchk_1 : decode jc_pchk 1 = .ok (.ifCond .lt 8, 3) := by decide +kernel
theorem dj_pchk_4 : decode jc_pchk 4 = .ok (.iload_n 0, 1) := by decide +kernel
theorem dj_pchk_5 : decode jc_pchk 5 = .ok (.iload_n 1, 1) := by decide +kernel
theorem dj_pchk_6 : decode jc_pchk 6 = .ok (.if_icmp .lt 10, 3) := by decide +kernel
theorem dj_pchk_16 : decode jc_pchk 16 = .ok (.iload_n 0, 1) := by decide +kernel
theorem dj_pchk_17 : decode jc_pchk 17 = .ok (.ireturn, 1) := by decide +kernel
theorem dj_schk_0 : decode jc_schk 0 = .ok (.iload_n 0, 1) := by decide +kernel
theorem dj_schk_1 : decode jc_schk 1 = .ok (.iload_n 1, 1) := by decide +kernel
theorem dj_schk_2 : decode jc_schk 2 = .ok (.getstatic 1053, 3) := by decide +kernel
theorem dj_schk_5 : decode jc_schk 5 = .ok (.invokestatic 1059, 3) := by decide +kernel
theorem dj_schk_8 : decode jc_schk 8 = .ok (.pop, 1) := by decide +kernel
theorem dj_schk_9 : decode jc_schk 9 = .ok (.return_, 1) := by decide +kernel
theorem dj_lch_0 : decode jc_lch 0 = .ok (.iload_n 1, 1) := by decide +kernel
theorem dj_lch_1 : decode jc_lch 1 = .ok (.aload_n 0, 1) := by decide +kernel
theorem dj_lch_2 : decode jc_lch 2 = .ok (.arraylength, 1) := by decide +kernel
theorem dj_lch_3 : decode jc_lch 3 = .ok (.invokestatic 9, 3) := by decide +kernel
theorem dj_lch_6 : decode jc_lch 6 = .ok (.aload_n 0, 1) := by decide +kernel
theorem dj_lch_7 : decode jc_lch 7 = .ok (.iload_n 1, 1) := by decide +kernel
theorem dj_lch_8 : decode jc_lch 8 = .ok (.baload, 1) := by decide +kernel
theorem dj_lch_9 : decode jc_lch 9 = .ok (.sipush 255, 3) := by decide +kernel
theorem dj_lch_12 : decode jc_lch 12 = .ok (.iand, 1) := by decide +kernel
theorem dj_lch_13 : decode jc_lch 13 = .ok (.i2c, 1) := by decide +kernel
theorem dj_lch_14 : decode jc_lch 14 = .ok (.ireturn, 1) := by decide +kernel
theorem dj_sch_0 : decode jc_sch 0 = .ok (.aload_n 0, 1) := by decide +kernel
theorem dj_sch_1 : decode jc_sch 1 = .ok (.invokevirtual 492, 3) := by decide +kernel
theorem dj_sch_4 : decode jc_sch 4 = .ok (.ifCond .eq 12, 3) := by decide +kernel
theorem dj_sch_7 : decode jc_sch 7 = .ok (.aload_n 0, 1) := by decide +kernel
theorem dj_sch_8 : decode jc_sch 8 = .ok (.getfield 9, 3) := by decide +kernel
theorem dj_sch_11 : decode jc_sch 11 = .ok (.iload_n 1, 1) := by decide +kernel
theorem dj_sch_12 : decode jc_sch 12 = .ok (.invokestatic 495, 3) := by decide +kernel
theorem dj_sch_15 : decode jc_sch 15 = .ok (.ireturn, 1) := by decide +kernel
/-- a Latin-1 String at a, her bytes at b, no one of them in A -/
def jStr (a b n : Nat) (f : Nat → Int32) (A : Nat → Prop) (U : State) (H : Heap) : Prop := va_Z "java/lang/String" "COMPACT_STRINGS" "Z" (.int 1) A U H ∧ va_OF "java/lang/String" "value" "[B" (.ref b) a A U H ∧ va_OF "java/lang/String" "coder" "B" (.int 0) a A U H ∧ va_T .byte b n (fun j => .int (f j)) A U H ∧ ∃ cell : Cell, H[a]? = some cell ∧ cell.vm.isStatics = false ∧ U.vm.findClass "java/lang/String" = some cell.cls ∧ ¬ A a
theorem jStr.moved {a b n : Nat} {f : Nat → Int32} {A : Nat → Prop} {u U : State} {H : Heap} (hvm : u.vm.Alike U.vm) (h : jStr a b n f A u H) : jStr a b n f A U H := by
  obtain ⟨h1, h2, h3, h4, cell, h5, h6, h7, h8⟩ := h
  exact ⟨va_Z.moved hvm h1, va_OF.moved hvm h2, va_OF.moved hvm h3, va_T.moved hvm h4, cell, h5, h6, by rw [hvm.findClass]; exact h7, h8⟩
theorem jStr.kept {a b n : Nat} {f : Nat → Int32} {A : Nat → Prop} {U : State} {H H1 : Heap} (h : jStr a b n f A U H) (hq : ∀ q : Nat, q < H.size → ¬ A q → H1[q]? = H[q]?) : jStr a b n f A U H1 := by
  obtain ⟨h1, h2, h3, h4, cell, h5, h6, h7, h8⟩ := h
  exact ⟨h1.kept hq, h2.kept hq, h3.kept hq, h4.kept hq, cell, by rw [hq a (Array.getElem?_eq_some_iff.mp h5).1 h8]; exact h5, h6, h7, h8⟩
theorem jStr.narrow {a b n : Nat} {f : Nat → Int32} {A B : Nat → Prop} {U : State} {H : Heap} (h : jStr a b n f A U H) (hAB : ∀ q, B q → A q) : jStr a b n f B U H := by
  obtain ⟨h1, h2, h3, h4, cell, h5, h6, h7, h8⟩ := h
  exact ⟨h1.narrow hAB, h2.narrow hAB, h3.narrow hAB, h4.narrow hAB, cell, h5, h6, h7, fun z => h8 (hAB _ z)⟩
abbrev jNo : Nat → Prop := fun _ => False
theorem jStr.none {a b n : Nat} {f : Nat → Int32} {A : Nat → Prop} {U : State} {H : Heap} (h : jStr a b n f A U H) : jStr a b n f jNo U H := h.narrow fun _ q => q.elim
section JS
variable (l : Launch) {u0 : State} {H0 : Heap} {a b n : Nat} {f : Nat → Int32} {A : Nat → Prop}
theorem mj_scod (hs : jStr a b n f A u0 H0) : jM l jy_scod jc_scod 1 jr_scod 0 0 0 0 u0 H0 [.ref a] jNo (fun v H => v = some (.int 0) ∧ H = H0) := by
  refine jM.of (by decide +kernel) (Nat.le_of_ble_eq_true rfl) ?_
  rintro p e s m below meth c ls ⟨hx, hb, hr, hml, hts, hown, hlk, hal, rfl⟩ hl
  have hl : lv_has ls 1 [(0, .ref a)] := hl
  obtain ⟨h1, h2, h3, h4, -⟩ := (hs.moved hal).none
  refine va_gets hx hb h1 va_S.rf hown (hts _ j_w995) (fun _ h => h) dj_scod_0 ?_
  refine lv_if_eq (tgt := 13) hx hb dj_scod_3 (by decide) (fun q => absurd q (by decide)) (fun _ => ?_)
  refine lv_aload_n hx hb dj_scod_6 rfl (lv_at hl 0 rfl) ?_
  refine vk_getf hx hb h3 va_S.rf hown (hts _ j_w1368) (fun _ h => h) dj_scod_7 ?_
  refine lv_goto (tgt := 14) hx hb dj_scod_10 (by decide) ?_
  exact jret_i hx hb hr rfl hlk ⟨rfl, rfl⟩ j_nil (Nat.le_refl _) (Nat.le_refl _) dj_scod_14
theorem mj_slen (hs : jStr a b n f A u0 H0) : jM l jy_slen jc_slen 1 jr_slen 1 20 0 0 u0 H0 [.ref a] jNo (fun v H => v = some (.int (nI n)) ∧ H = H0) := by
  refine jM.of (by decide +kernel) (Nat.le_of_ble_eq_true rfl) ?_
  rintro p e s m below meth c ls ⟨hx, hb, hr, hml, hts, hown, hlk, hal, rfl⟩ hl
  have hl : lv_has ls 1 [(0, .ref a)] := hl
  have hs := (hs.moved hal).none
  obtain ⟨h1, h2, h3, h4, cell, h5, h6, h7, -⟩ := id hs
  refine lv_aload_n hx hb dj_slen_0 rfl (lv_at hl 0 rfl) ?_
  refine vk_getf hx hb h2 va_S.rf hown (hts _ j_w1367) (fun _ h => h) dj_slen_1 ?_
  refine va_tlen hx hb h4 va_S.rf rfl dj_slen_4 ?_
  refine lv_aload_n hx hb dj_slen_5 rfl (lv_at hl 0 rfl) ?_
  refine jV (C := "java/lang/String") (al := []) (rest := [.int (Int32.ofNat n)]) (k := 0) (ix := 335) (mj_scod l (u0 := s) (H0 := s.heap) hs) hx hb (hml.trans hl.1.symm) hown hts (hts _ j_w991) j_w992 j_w20 j_w994 j_w993 (by decide) (by decide +kernel) rfl h5 h6 h7 (by decide) (by decide) ⟨Nat.le_refl _, Nat.le_refl _⟩ (Nat.le_of_ble_eq_true rfl) dj_slen_6 ?_
  rintro v H1 L ⟨rfl, rfl⟩ hL
  refine lv_ishr hx hb dj_slen_9 ?_
  rw [sb_shr0]
  exact jret_i hx hb hr rfl hlk ⟨rfl, rfl⟩ hL (Nat.le_refl _) (Nat.le_refl _) dj_slen_10
theorem mj_slat (hs : jStr a b n f A u0 H0) : jM l jy_slat jc_slat 1 jr_slat 0 0 0 0 u0 H0 [.ref a] jNo (fun v H => v = some (.int 1) ∧ H = H0) := by
  refine jM.of (by decide +kernel) (Nat.le_of_ble_eq_true rfl) ?_
  rintro p e s m below meth c ls ⟨hx, hb, hr, hml, hts, hown, hlk, hal, rfl⟩ hl
  have hl : lv_has ls 1 [(0, .ref a)] := hl
  obtain ⟨h1, h2, h3, h4, -⟩ := (hs.moved hal).none
  refine va_gets hx hb h1 va_S.rf hown (hts _ j_w995) (fun _ h => h) dj_slat_0 ?_
  refine lv_if_eq (tgt := 17) hx hb dj_slat_3 (by decide) (fun q => absurd q (by decide)) (fun _ => ?_)
  refine lv_aload_n hx hb dj_slat_6 rfl (lv_at hl 0 rfl) ?_
  refine vk_getf hx hb h3 va_S.rf hown (hts _ j_w1368) (fun _ h => h) dj_slat_7 ?_
  refine lv_if_ne (tgt := 17) hx hb dj_slat_10 (by decide) (fun q => absurd rfl q) (fun _ => ?_)
  refine lv_iconst (v := 1) hx hb dj_slat_13 (by decide) ?_
  refine lv_goto (tgt := 18) hx hb dj_slat_14 (by decide) ?_
  exact jret_i hx hb hr rfl hlk ⟨rfl, rfl⟩ j_nil (Nat.le_refl _) (Nat.le_refl _) dj_slat_18
theorem mj_pchk {i k : Int32} {w : Value} (hw : w = .null ∨ ∃ q : Nat, w = .ref q) (h0 : ¬ i < 0) (hk : i < k) : jM l jy_pchk jc_pchk 3 jr_pchk 0 0 0 0 u0 H0 [.int i, .int k, w] jNo (fun v H => v = some (.int i) ∧ H = H0) := by
  have go : ∀ (p : Program) (e : Env) (s : State) (m : MethodId) (below : List Frame) (meth : Method) (c : Code) (ls : Array Slot), jAt p jy_pchk jc_pchk 3 jr_pchk u0 H0 [.int i, .int k, w] s m meth c → lv_has ls 3 [(0, .int i), (1, .int k), (2, w)] → W p l e (jrm 0 0 0 0) s m [.int i, .int k, w].toArray below meth c s.heap [] 0 0 (MQ below (jQ fun v H => v = some (.int i) ∧ H = H0) [.int i, .int k, w].toArray s 0 0 jNo) (F0 m 0 ls []) := by
    rintro p e s m below meth c ls ⟨hx, hb, hr, hml, hts, hown, hlk, hal, rfl⟩ hl
    refine lv_iload_n hx hb dj_pchk_0 rfl (lv_at hl 0 rfl) ?_
    refine lv_if_lt (tgt := 9) hx hb dj_pchk_1 (by decide) (fun q => absurd q h0) (fun _ => ?_)
    refine lv_iload_n hx hb dj_pchk_4 rfl (lv_at hl 0 rfl) ?_
    refine lv_iload_n hx hb dj_pchk_5 rfl (lv_at hl 1 rfl) ?_
    refine lv_icmp_lt (tgt := 16) hx hb dj_pchk_6 (by decide) (fun _ => ?_) (fun q => absurd hk q)
    refine lv_iload_n hx hb dj_pchk_16 rfl (lv_at hl 0 rfl) ?_
    exact jret_i hx hb hr rfl hlk ⟨rfl, rfl⟩ j_nil (Nat.le_refl _) (Nat.le_refl _) dj_pchk_17
  rcases hw with rfl | ⟨q, rfl⟩
  · exact jM.of (by decide +kernel) (Nat.le_of_ble_eq_true rfl) fun p e s m below meth c ls h hl => go p e s m below meth c ls h hl
  · exact jM.of (by decide +kernel) (Nat.le_of_ble_eq_true rfl) fun p e s m below meth c ls h hl => go p e s m below meth c ls h hl
abbrev jFm (A : Nat → Prop) (U : State) (H : Heap) : Prop := va_Zq "jdk/internal/util/Preconditions" "SIOOBE_FORMATTER" "Ljava/util/function/BiFunction;" A U H
theorem mj_schk {i k : Int32} (hF : jFm A u0 H0) (h0 : ¬ i < 0) (hk : i < k) : jM l jy_schk jc_schk 2 jr_schk 1 22 0 0 u0 H0 [.int i, .int k] jNo (fun v H => v = none ∧ H = H0) := by
  refine jM.of (by decide +kernel) (Nat.le_of_ble_eq_true rfl) ?_
  rintro p e s m below meth c ls ⟨hx, hb, hr, hml, hts, hown, hlk, hal, rfl⟩ hl
  have hl : lv_has ls 2 [(0, .int i), (1, .int k)] := hl
  obtain ⟨w, hw, h1⟩ : ∃ w : Value, (w = .null ∨ ∃ q : Nat, w = .ref q) ∧ va_Z "jdk/internal/util/Preconditions" "SIOOBE_FORMATTER" "Ljava/util/function/BiFunction;" w jNo s s.heap := by
    rcases (va_Zq.moved hal hF).narrow (B := jNo) (fun _ q => q.elim) with h | ⟨q, h⟩
    · exact ⟨_, Or.inl rfl, h⟩
    · exact ⟨_, Or.inr ⟨q, rfl⟩, h⟩
  refine lv_iload_n hx hb dj_schk_0 rfl (lv_at hl 0 rfl) ?_
  refine lv_iload_n hx hb dj_schk_1 rfl (lv_at hl 1 rfl) ?_
  refine va_gets hx hb h1 va_S.rf hown (hts _ j_w1018) (fun _ h => h) dj_schk_2 ?_
  refine jS (av := [.int i, .int k, w]) (rest := []) (k := 3) (ix := 1059) (mj_pchk l (u0 := s) (H0 := s.heap) hw h0 hk) hx hb (hml.trans hl.1.symm) hown hts (hts _ j_w1020) j_w1021 j_w22 j_w1022 (by decide) (by decide +kernel) rfl (by decide) (by decide) ⟨Nat.le_refl _, Nat.le_refl _⟩ (by decide) dj_schk_5 ?_
  rintro v H1 L ⟨rfl, rfl⟩ hL
  refine lv_pop hx hb dj_schk_8 rfl ?_
  exact jret_v hx hb hr hlk ⟨rfl, rfl⟩ hL (Nat.le_refl _) (Nat.le_refl _) dj_schk_9
/-- a byte that is a letter below 128 comes out as the letter -/
theorem j_byte : ∀ k, k < 128 → ((nI k &&& 255).toUInt32 % 65536).toInt32 = nI k := by decide +kernel
theorem j_char : ∀ k, k < 128 → narrow .char (.int (nI k)) = .int (nI k) := by decide +kernel
theorem mj_lch {i : Nat} {t : Nat → Nat} (hT : va_T .byte b n (fun j => .int (nI (t j))) A u0 H0) (hF : jFm A u0 H0) (hi : i < n) (hn : n < 2147483648) (ht : t i < 128) : jM l jy_lch jc_lch 2 jr_lch 2 43 0 0 u0 H0 [.ref b, .int (nI i)] jNo (fun v H => v = some (.int (nI (t i))) ∧ H = H0) := by
  refine jM.of (by decide +kernel) (Nat.le_of_ble_eq_true rfl) ?_
  rintro p e s m below meth c ls ⟨hx, hb, hr, hml, hts, hown, hlk, hal, rfl⟩ hl
  have hl : lv_has ls 2 [(0, .ref b), (1, .int (nI i))] := hl
  have h4 := (va_T.moved hal hT).narrow (B := jNo) (fun _ q => q.elim)
  refine lv_iload_n hx hb dj_lch_0 rfl (lv_at hl 1 rfl) ?_
  refine lv_aload_n hx hb dj_lch_1 rfl (lv_at hl 0 rfl) ?_
  refine va_tlen hx hb h4 va_S.rf rfl dj_lch_2 ?_
  refine jS (av := [.int (nI i), .int (Int32.ofNat n)]) (rest := []) (k := 2) (ix := 9) (mj_schk l (u0 := s) (H0 := s.heap) (va_Zq.moved hal hF) (nI_pos (by omega)) (nI_lt hi (by omega))) hx hb (hml.trans hl.1.symm) hown hts (hts _ j_w1015) j_w1016 j_w20 j_w1017 (by decide) (by decide +kernel) rfl (by decide) (by decide) ⟨Nat.le_refl _, Nat.le_refl _⟩ (by decide) dj_lch_3 ?_
  rintro v H1 L ⟨rfl, rfl⟩ hL
  refine lv_aload_n hx hb dj_lch_6 rfl (lv_at hl 0 rfl) ?_
  refine lv_iload_n hx hb dj_lch_7 rfl (lv_at hl 1 rfl) ?_
  obtain ⟨cell, g1, g2, g3, g4, g5, g6, -⟩ := h4
  refine W.bald (v := .int (nI (t i))) hx hb g1 g2 g3 (fun q => ?_) (by rw [nI_clamp (by omega)]; exact g6 i hi) rfl rfl dj_lch_8 ?_
  · rcases q with q | q
    · exact nI_pos (by omega) q
    · rw [nI_clamp (by omega)] at q; omega
  refine lv_sipush (v := 255) hx hb dj_lch_9 (by decide) ?_
  refine lv_iand hx hb dj_lch_12 ?_
  refine lv_i2c (v := nI (t i)) hx hb dj_lch_13 (j_byte _ ht) ?_
  exact jret_i hx hb hr (j_char _ ht) hlk ⟨rfl, rfl⟩ hL (Nat.le_refl _) (Nat.le_refl _) dj_lch_14
theorem mj_sch {i : Nat} {t : Nat → Nat} (hs : jStr a b n (fun j => nI (t j)) A u0 H0) (hF : jFm A u0 H0) (hi : i < n) (hn : n < 2147483648) (ht : t i < 128) : jM l jy_sch jc_sch 2 jr_sch 3 64 0 0 u0 H0 [.ref a, .int (nI i)] jNo (fun v H => v = some (.int (nI (t i))) ∧ H = H0) := by
  refine jM.of (by decide +kernel) (Nat.le_of_ble_eq_true rfl) ?_
  rintro p e s m below meth c ls ⟨hx, hb, hr, hml, hts, hown, hlk, hal, rfl⟩ hl
  have hl : lv_has ls 2 [(0, .ref a), (1, .int (nI i))] := hl
  have hs := (hs.moved hal).none
  obtain ⟨h1, h2, h3, h4, cell, h5, h6, h7, -⟩ := id hs
  refine lv_aload_n hx hb dj_sch_0 rfl (lv_at hl 0 rfl) ?_
  refine jV (C := "java/lang/String") (al := []) (rest := []) (k := 0) (ix := 492) (mj_slat l (u0 := s) (H0 := s.heap) hs) hx hb (hml.trans hl.1.symm) hown hts (hts _ j_w1008) j_w1009 j_w20 j_w1011 j_w1010 (by decide) (by decide +kernel) rfl h5 h6 h7 (by decide) (by decide) ⟨Nat.le_refl _, Nat.le_refl _⟩ (Nat.le_of_ble_eq_true rfl) dj_sch_1 ?_
  rintro v H1 L ⟨rfl, rfl⟩ hL
  refine lv_if_eq (tgt := 16) hx hb dj_sch_4 (by decide) (fun q => absurd q (by decide)) (fun _ => ?_)
  refine lv_aload_n hx hb dj_sch_7 rfl (lv_at hl 0 rfl) ?_
  refine vk_getf hx hb h2 ⟨Nat.le_refl _, fun _ _ _ => rfl, hL⟩ hown (hts _ j_w1367) (fun _ h => h) dj_sch_8 ?_
  refine lv_iload_n hx hb dj_sch_11 rfl (lv_at hl 1 rfl) ?_
  refine jS (av := [.ref b, .int (nI i)]) (rest := []) (k := 2) (ix := 495) (mj_lch l (u0 := s) (H0 := s.heap) h4 ((va_Zq.moved hal hF).narrow (B := jNo) (fun _ q => q.elim)) hi hn ht) hx hb (hml.trans hl.1.symm) hown hts (hts _ j_w1012) j_w1013 j_w21 j_w1014 (by decide) (by decide +kernel) rfl (by decide) (by decide) ⟨Nat.le_refl _, Nat.le_refl _⟩ (by decide) dj_sch_12 ?_
  rintro v H1 L2 ⟨rfl, rfl⟩ hL2
  refine jret_i hx hb hr (j_char _ ht) hlk ⟨rfl, rfl⟩ (fun q hq => ?_) (Nat.le_refl _) (Nat.le_refl _) dj_sch_15
  rcases List.mem_append.mp hq with h | h
  · exact hL q h
  · exact hL2 q h
end JS
