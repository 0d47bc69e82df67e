/-! THE JDK's OWN METHODS: a String behind a StringBuilder's letters -/
abbrev jy_inf : MethodName := ⟨"java/lang/AbstractStringBuilder", "inflateIfNeededFor", "(Ljava/lang/String;)V"⟩
abbrev jc_inf : ByteArray := prog_13_method_71_code
abbrev jr_inf : Option FieldType := (Option.none : Option Jvm.ClassFile.FieldType)
abbrev jy_put : MethodName := ⟨"java/lang/AbstractStringBuilder", "putStringAt", "(ILjava/lang/String;)V"⟩
abbrev jc_put : ByteArray := prog_13_method_73_code
abbrev jr_put : Option FieldType := (Option.none : Option Jvm.ClassFile.FieldType)
abbrev jy_gby : MethodName := ⟨"java/lang/String", "getBytes", "([BIB)V"⟩
abbrev jc_gby : ByteArray := prog_30_method_147_code
abbrev jr_gby : Option FieldType := (Option.none : Option Jvm.ClassFile.FieldType)
abbrev jy_aas : MethodName := ⟨"java/lang/AbstractStringBuilder", "append", "(Ljava/lang/String;)Ljava/lang/AbstractStringBuilder;"⟩
abbrev jc_aas : ByteArray := prog_13_method_22_code
abbrev jr_aas : Option FieldType := (Option.some (Jvm.ClassFile.FieldType.object "java/lang/AbstractStringBuilder"))
abbrev jy_bas : MethodName := ⟨"java/lang/StringBuilder", "append", "(Ljava/lang/String;)Ljava/lang/StringBuilder;"⟩
abbrev jc_bas : ByteArray := prog_31_method_7_code
abbrev jr_bas : Option FieldType := (Option.some (Jvm.ClassFile.FieldType.object "java/lang/StringBuilder"))
theorem j_w1258 : Jvm.Cond.methodLink "java/lang/AbstractStringBuilder" (40 : Nat) ({ cls := "java/lang/String", name := "coder", desc := "()B" } : Jvm.MethodName) ∈ j_W := j_at_in (i := 1267) (by decide +kernel)
theorem j_w1282 : Jvm.Cond.methodLink "java/lang/String" (212 : Nat) ({ cls := "java/lang/System", name := "arraycopy", desc := "(Ljava/lang/Object;ILjava/lang/Object;II)V" } : Jvm.MethodName) ∈ j_W := j_at_in (i := 1291) (by decide +kernel)
theorem j_w353 : Jvm.Cond.native ({ cls := "java/lang/System", name := "arraycopy", desc := "(Ljava/lang/Object;ILjava/lang/Object;II)V" } : Jvm.MethodName) ∈ j_W := j_at_in (i := 362) (by decide +kernel)
theorem j_w352 : Jvm.Cond.static ({ cls := "java/lang/System", name := "arraycopy", desc := "(Ljava/lang/Object;ILjava/lang/Object;II)V" } : Jvm.MethodName) ∈ j_W := j_at_in (i := 361) (by decide +kernel)
theorem j_w14 : Jvm.Cond.initialized "java/lang/System" ∈ j_W := j_at_in (i := 23) (by decide +kernel)
theorem j_w1254 : Jvm.Cond.methodLink "java/lang/AbstractStringBuilder" (397 : Nat) ({ cls := "java/lang/AbstractStringBuilder", name := "inflateIfNeededFor", desc := "(Ljava/lang/String;)V" } : Jvm.MethodName) ∈ j_W := j_at_in (i := 1263) (by decide +kernel)
theorem j_w1256 : Jvm.Cond.instanceMethod ({ cls := "java/lang/AbstractStringBuilder", name := "inflateIfNeededFor", desc := "(Ljava/lang/String;)V" } : Jvm.MethodName) ∈ j_W := j_at_in (i := 1265) (by decide +kernel)
theorem j_w1257 : Jvm.Cond.code ({ cls := "java/lang/AbstractStringBuilder", name := "inflateIfNeededFor", desc := "(Ljava/lang/String;)V" } : Jvm.MethodName) prog_13_method_71_code (2 : Nat) (Option.none : Option Jvm.ClassFile.FieldType) ∈ j_W := j_at_in (i := 1266) (by decide +kernel)
theorem j_w1396 : Jvm.Cond.sameMethod "java/lang/AbstractStringBuilder" "java/lang/AbstractStringBuilder" "inflateIfNeededFor" "(Ljava/lang/String;)V" ∈ j_W := j_at_in (i := 1405) (by decide +kernel)
theorem j_w1278 : Jvm.Cond.methodLink "java/lang/AbstractStringBuilder" (399 : Nat) ({ cls := "java/lang/String", name := "getBytes", desc := "([BIB)V" } : Jvm.MethodName) ∈ j_W := j_at_in (i := 1287) (by decide +kernel)
theorem j_w1279 : Jvm.Cond.instanceMethod ({ cls := "java/lang/String", name := "getBytes", desc := "([BIB)V" } : Jvm.MethodName) ∈ j_W := j_at_in (i := 1288) (by decide +kernel)
theorem j_w1281 : Jvm.Cond.code ({ cls := "java/lang/String", name := "getBytes", desc := "([BIB)V" } : Jvm.MethodName) prog_30_method_147_code (4 : Nat) (Option.none : Option Jvm.ClassFile.FieldType) ∈ j_W := j_at_in (i := 1290) (by decide +kernel)
theorem j_w1280 : Jvm.Cond.selects "java/lang/String" ({ cls := "java/lang/String", name := "getBytes", desc := "([BIB)V" } : Jvm.MethodName) ({ cls := "java/lang/String", name := "getBytes", desc := "([BIB)V" } : Jvm.MethodName) ∈ j_W := j_at_in (i := 1289) (by decide +kernel)
theorem j_w1249 : Jvm.Cond.methodLink "java/lang/AbstractStringBuilder" (32 : Nat) ({ cls := "java/lang/String", name := "length", desc := "()I" } : Jvm.MethodName) ∈ j_W := j_at_in (i := 1258) (by decide +kernel)
theorem j_w988 : Jvm.Cond.instanceMethod ({ cls := "java/lang/String", name := "length", desc := "()I" } : Jvm.MethodName) ∈ j_W := j_at_in (i := 997) (by decide +kernel)
theorem j_w990 : Jvm.Cond.code ({ cls := "java/lang/String", name := "length", desc := "()I" } : Jvm.MethodName) prog_30_method_54_code (1 : Nat) (Option.some Jvm.ClassFile.FieldType.int) ∈ j_W := j_at_in (i := 999) (by decide +kernel)
theorem j_w989 : Jvm.Cond.selects "java/lang/String" ({ cls := "java/lang/String", name := "length", desc := "()I" } : Jvm.MethodName) ({ cls := "java/lang/String", name := "length", desc := "()I" } : Jvm.MethodName) ∈ j_W := j_at_in (i := 998) (by decide +kernel)
theorem j_w1196 : Jvm.Cond.methodLink "java/lang/AbstractStringBuilder" (100 : Nat) ({ cls := "java/lang/AbstractStringBuilder", name := "ensureCapacityInternal", desc := "(I)V" } : Jvm.MethodName) ∈ j_W := j_at_in (i := 1205) (by decide +kernel)
theorem j_w1198 : Jvm.Cond.instanceMethod ({ cls := "java/lang/AbstractStringBuilder", name := "ensureCapacityInternal", desc := "(I)V" } : Jvm.MethodName) ∈ j_W := j_at_in (i := 1207) (by decide +kernel)
theorem j_w1199 : Jvm.Cond.code ({ cls := "java/lang/AbstractStringBuilder", name := "ensureCapacityInternal", desc := "(I)V" } : Jvm.MethodName) prog_13_method_9_code (3 : Nat) (Option.none : Option Jvm.ClassFile.FieldType) ∈ j_W := j_at_in (i := 1208) (by decide +kernel)
theorem j_w1393 : Jvm.Cond.sameMethod "java/lang/AbstractStringBuilder" "java/lang/AbstractStringBuilder" "ensureCapacityInternal" "(I)V" ∈ j_W := j_at_in (i := 1402) (by decide +kernel)
theorem j_w1250 : Jvm.Cond.methodLink "java/lang/AbstractStringBuilder" (208 : Nat) ({ cls := "java/lang/AbstractStringBuilder", name := "putStringAt", desc := "(ILjava/lang/String;)V" } : Jvm.MethodName) ∈ j_W := j_at_in (i := 1259) (by decide +kernel)
theorem j_w1252 : Jvm.Cond.instanceMethod ({ cls := "java/lang/AbstractStringBuilder", name := "putStringAt", desc := "(ILjava/lang/String;)V" } : Jvm.MethodName) ∈ j_W := j_at_in (i := 1261) (by decide +kernel)
theorem j_w1253 : Jvm.Cond.code ({ cls := "java/lang/AbstractStringBuilder", name := "putStringAt", desc := "(ILjava/lang/String;)V" } : Jvm.MethodName) prog_13_method_73_code (3 : Nat) (Option.none : Option Jvm.ClassFile.FieldType) ∈ j_W := j_at_in (i := 1262) (by decide +kernel)
theorem j_w1395 : Jvm.Cond.sameMethod "java/lang/AbstractStringBuilder" "java/lang/AbstractStringBuilder" "putStringAt" "(ILjava/lang/String;)V" ∈ j_W := j_at_in (i := 1404) (by decide +kernel)
theorem j_w1189 : Jvm.Cond.methodLink "java/lang/StringBuilder" (29 : Nat) ({ cls := "java/lang/AbstractStringBuilder", name := "append", desc := "(Ljava/lang/String;)Ljava/lang/AbstractStringBuilder;" } : Jvm.MethodName) ∈ j_W := j_at_in (i := 1198) (by decide +kernel)
theorem j_w1190 : Jvm.Cond.instanceMethod ({ cls := "java/lang/AbstractStringBuilder", name := "append", desc := "(Ljava/lang/String;)Ljava/lang/AbstractStringBuilder;" } : Jvm.MethodName) ∈ j_W := j_at_in (i := 1199) (by decide +kernel)
theorem j_w1191 : Jvm.Cond.code ({ cls := "java/lang/AbstractStringBuilder", name := "append", desc := "(Ljava/lang/String;)Ljava/lang/AbstractStringBuilder;" } : Jvm.MethodName) prog_13_method_22_code (3 : Nat) (Option.some (Jvm.ClassFile.FieldType.object "java/lang/AbstractStringBuilder")) ∈ j_W := j_at_in (i := 1200) (by decide +kernel)
theorem j_w1183 : Jvm.Cond.superclass "java/lang/StringBuilder" "java/lang/AbstractStringBuilder" ∈ j_W := j_at_in (i := 1192) (by decide +kernel)
theorem j_w1391 : Jvm.Cond.sameMethod "java/lang/AbstractStringBuilder" "java/lang/AbstractStringBuilder" "append" "(Ljava/lang/String;)Ljava/lang/AbstractStringBuilder;" ∈ j_W := j_at_in (i := 1400) (by decide +kernel)
theorem dj_inf_0 : decode jc_inf 0 = .ok (.getstatic 18, 3) := by decide +kernel
theorem dj_inf_3 : decode jc_inf 3 = .ok (.ifCond .eq 18, 3) := by decide +kernel
theorem dj_inf_6 : decode jc_inf 6 = .ok (.aload_n 0, 1) := by decide +kernel
theorem dj_inf_7 : decode jc_inf 7 = .ok (.getfield 22, 3) := by decide +kernel
theorem dj_inf_10 : decode jc_inf 10 = .ok (.aload_n 1, 1) := by decide +kernel
theorem dj_inf_11 : decode jc_inf 11 = .ok (.invokevirtual 40, 3) := by decide +kernel
theorem dj_inf_14 : decode jc_inf 14 = .ok (.if_icmp .eq 7, 3) := by decide +kernel
theorem dj_inf_21 : decode jc_inf 21 = .ok (.return_, 1) := by decide +kernel
theorem dj_gby_0 : decode jc_gby 0 = .ok (.aload_n 0, 1) := by decide +kernel
theorem dj_gby_1 : decode jc_gby 1 = .ok (.invokevirtual 335, 3) := by decide +kernel
theorem dj_gby_4 : decode jc_gby 4 = .ok (.iload_n 3, 1) := by decide +kernel
theorem dj_gby_5 : decode jc_gby 5 = .ok (.if_icmp .ne 23, 3) := by decide +kernel
theorem dj_gby_8 : decode jc_gby 8 = .ok (.aload_n 0, 1) := by decide +kernel
theorem dj_gby_9 : decode jc_gby 9 = .ok (.getfield 9, 3) := by decide +kernel
theorem dj_gby_12 : decode jc_gby 12 = .ok (.iconst 0, 1) := by decide +kernel
theorem dj_gby_13 : decode jc_gby 13 = .ok (.aload_n 1, 1) := by decide +kernel
theorem dj_gby_14 : decode jc_gby 14 = .ok (.iload_n 2, 1) := by decide +kernel
theorem dj_gby_15 : decode jc_gby 15 = .ok (.iload_n 3, 1) := by decide +kernel
theorem dj_gby_16 : decode jc_gby 16 = .ok (.ishl, 1) := by decide +kernel
theorem dj_gby_17 : decode jc_gby 17 = .ok (.aload_n 0, 1) := by decide +kernel
theorem dj_gby_18 : decode jc_gby 18 = .ok (.getfield 9, 3) := by decide +kernel
theorem dj_gby_21 : decode jc_gby 21 = .ok (.arraylength, 1) := by decide +kernel
theorem dj_gby_22 : decode jc_gby 22 = .ok (.invokestatic 212, 3) := by decide +kernel
theorem dj_gby_25 : decode jc_gby 25 = .ok (.goto 18, 3) := by decide +kernel
theorem dj_gby_43 : decode jc_gby 43 = .ok (.return_, 1) := by decide +kernel
theorem dj_put_0 : decode jc_put 0 = .ok (.aload_n 0, 1) := by decide +kernel
theorem dj_put_1 : decode jc_put 1 = .ok (.aload_n 2, 1) := by decide +kernel
theorem dj_put_2 : decode jc_put 2 = .ok (.invokevirtual 397, 3) := by decide +kernel
theorem dj_put_5 : decode jc_put 5 = .ok (.aload_n 2, 1) := by decide +kernel
theorem dj_put_6 : decode jc_put 6 = .ok (.aload_n 0, 1) := by decide +kernel
theorem dj_put_7 : decode jc_put 7 = .ok (.getfield 15, 3) := by decide +kernel
theorem dj_put_10 : decode jc_put 10 = .ok (.iload_n 1, 1) := by decide +kernel
theorem dj_put_11 : decode jc_put 11 = .ok (.aload_n 0, 1) := by decide +kernel
theorem dj_put_12 : decode jc_put 12 = .ok (.getfield 22, 3) := by decide +kernel
theorem dj_put_15 : decode jc_put 15 = .ok (.invokevirtual 399, 3) := by decide +kernel
theorem dj_put_18 : decode jc_put 18 = .ok (.return_, 1) := by decide +kernel
theorem dj_aas_0 : decode jc_aas 0 = .ok (.aload_n 1, 1) := by decide +kernel
theorem dj_aas_1 : decode jc_aas 1 = .ok (.ifnonnull 8, 3) := by decide +kernel
theorem dj_aas_9 : decode jc_aas 9 = .ok (.aload_n 1, 1) := by decide +kernel
theorem dj_aas_10 : decode jc_aas 10 = .ok (.invokevirtual 32, 3) := by decide +kernel
theorem dj_aas_13 : decode jc_aas 13 = .ok (.istore_n 2, 1) := by decide +kernel
theorem dj_aas_14 : decode jc_aas 14 = .ok (.aload_n 0, 1) := by decide +kernel
theorem dj_aas_15 : decode jc_aas 15 = .ok (.aload_n 0, 1) := by decide +kernel
theorem dj_aas_16 : decode jc_aas 16 = .ok (.getfield 79, 3) := by decide +kernel
theorem dj_aas_19 : decode jc_aas 19 = .ok (.iload_n 2, 1) := by decide +kernel
theorem dj_aas_20 : decode jc_aas 20 = .ok (.iadd, 1) := by decide +kernel
theorem dj_aas_21 : decode jc_aas 21 = .ok (.invokevirtual 100, 3) := by decide +kernel
theorem dj_aas_24 : decode jc_aas 24 = .ok (.aload_n 0, 1) := by decide +kernel
theorem dj_aas_25 : decode jc_aas 25 = .ok (.aload_n 0, 1) := by decide +kernel
theorem dj_aas_26 : decode jc_aas 26 = .ok (.getfield 79, 3) := by decide +kernel
theorem dj_aas_29 : decode jc_aas 29 = .ok (.aload_n 1, 1) := by decide +kernel
theorem dj_aas_30 : decode jc_aas 30 = .ok (.invokevirtual 208, 3) := by decide +kernel
theorem dj_aas_33 : decode jc_aas 33 = .ok (.aload_n 0, 1) := by decide +kernel
theorem dj_aas_34 : decode jc_aas 34 = .ok (.dup, 1) := by decide +kernel
theorem dj_aas_35 : decode jc_aas 35 = .ok (.getfield 79, 3) := by decide +kernel
theorem dj_aas_38 : decode jc_aas 38 = .ok (.iload_n 2, 1) := by decide +kernel
theorem dj_aas_39 : decode jc_aas 39 = .ok (.iadd, 1) := by decide +kernel
theorem dj_aas_40 : decode jc_aas 40 = .ok (.putfield 79, 3) := by decide +kernel
theorem dj_aas_43 : decode jc_aas 43 = .ok (.aload_n 0, 1) := by decide +kernel
theorem dj_aas_44 : decode jc_aas 44 = .ok (.areturn, 1) := by decide +kernel
theorem dj_bas_0 : decode jc_bas 0 = .ok (.aload_n 0, 1) := by decide +kernel
theorem dj_bas_1 : decode jc_bas 1 = .ok (.aload_n 1, 1) := by decide +kernel
theorem dj_bas_2 : decode jc_bas 2 = .ok (.invokespecial 29, 3) := by decide +kernel
theorem dj_bas_5 : decode jc_bas 5 = .ok (.pop, 1) := by decide +kernel
theorem dj_bas_6 : decode jc_bas 6 = .ok (.aload_n 0, 1) := by decide +kernel
theorem dj_bas_7 : decode jc_bas 7 = .ok (.areturn, 1) := by decide +kernel
theorem j_X_ens : Cond.selects "java/lang/StringBuilder" jy_ens jy_ens ∈ j_X := List.mem_cons_self
theorem j_X_inf : Cond.selects "java/lang/StringBuilder" jy_inf jy_inf ∈ j_X := List.mem_cons_of_mem _ List.mem_cons_self
theorem j_X_put : Cond.selects "java/lang/StringBuilder" jy_put jy_put ∈ j_X := List.mem_cons_of_mem _ (List.mem_cons_of_mem _ List.mem_cons_self)
section JA1
variable (l : Launch) {u0 : State} {H0 : Heap} {D : va_G} {cA : ClassId} {b d n a z w : Nat} {f g : Nat → Int32}
theorem mj_inf (hB : jB D cA b d n f u0 H0) (hs : jStr a z w g (jA b d) u0 H0) : jM l jy_inf jc_inf 2 jr_inf 1 20 0 0 u0 H0 [.ref b, .ref a] jNo (fun v H => v = none ∧ H = H0) := by
  refine jM.of (by decide +kernel) (Nat.le_of_ble_eq_true rfl) ?_
  rintro p e s m below meth c ls ⟨hx, hb, hr, hml, hts, hown, hlk, hal, rfl⟩ hl
  have hl : lv_has ls 2 [(0, .ref b), (1, .ref a)] := hl
  obtain ⟨hK, hP, -, hZ⟩ := hB.moved hal
  have hs := hs.moved hal
  obtain ⟨-, -, -, -, cell, h5, h6, h7, -⟩ := id hs
  refine va_gets hx hb hZ va_S.rf hown (hts _ j_w1163) (fun _ h => h) dj_inf_0 ?_
  refine lv_if_eq (tgt := 21) hx hb dj_inf_3 (by decide) (fun q => absurd q (by decide)) (fun _ => ?_)
  refine lv_aload_n hx hb dj_inf_6 rfl (lv_at hl 0 rfl) ?_
  refine va_get (C := RJ4) (T := TJ4) (N := 4) (ci := 0) (v := .int 0) hx hb hts j_bw hown hK hP 0 rfl rfl 1 (by decide) (hts _ j_w1172) (fun _ h => h) rfl dj_inf_7 ?_
  refine lv_aload_n hx hb dj_inf_10 rfl (lv_at hl 1 rfl) ?_
  refine jV (C := "java/lang/String") (al := []) (rest := [.int 0]) (k := 0) (ix := 40) (mj_scod l (u0 := s) (H0 := s.heap) hs) hx hb (hml.trans hl.1.symm) hown hts (hts _ j_w1258) j_w992 j_w20 j_w994 j_w993 (by decide) (by decide +kernel) rfl h5 h6 h7 (by decide) (by decide) ⟨Nat.le_refl _, Nat.le_refl _⟩ (Nat.le_of_ble_eq_true rfl) dj_inf_11 ?_
  rintro v H1 L ⟨rfl, rfl⟩ hL
  refine lv_icmp_eq (tgt := 21) hx hb dj_inf_14 (by decide) (fun _ => ?_) (fun q => absurd rfl q)
  exact jret_v hx hb hr hlk ⟨rfl, rfl⟩ hL (Nat.le_refl _) (Nat.le_refl _) dj_inf_21
theorem j_fitb : ∀ k, k < 128 → fits .byte (.int (nI k)) = true := by decide +kernel
theorem mj_gby {t : Nat → Nat} (hB : jB D cA b d n f u0 H0) (hs : jStr a z w (fun j => nI (t j)) (jA b d) u0 H0) (hw : n + w ≤ 16) (ht : ∀ j, j < w → t j < 128) : jM l jy_gby jc_gby 4 jr_gby 1 24 0 0 u0 H0 [.ref a, .ref d, .int (nI n), .int 0] (jA b d) (fun v H1 => v = none ∧ va_P D jcl (jw b d cA (va_cpy (fun j => nI (t j)) f 0 n w) n) H1 ∧ va_S (jA b d) H0 H1 []) := by
  refine jM.of (by decide +kernel) (Nat.le_of_ble_eq_true rfl) ?_
  rintro p e s m below meth c ls ⟨hx, hb, hr, hml, hts, hown, hlk, hal, rfl⟩ hl
  have hl : lv_has ls 4 [(0, .ref a), (1, .ref d), (2, .int (nI n)), (3, .int 0)] := hl
  obtain ⟨hK, hP, hbd, hZ⟩ := hB.moved hal
  have hs := hs.moved hal
  obtain ⟨-, h2, -, h4, cell, h5, h6, h7, -⟩ := id hs
  refine lv_aload_n hx hb dj_gby_0 rfl (lv_at hl 0 rfl) ?_
  refine jV (C := "java/lang/String") (al := []) (rest := []) (k := 0) (ix := 335) (mj_scod l (u0 := s) (H0 := s.heap) hs) hx hb (hml.trans hl.1.symm) hown hts (hts _ j_w991) j_w992 j_w20 j_w994 j_w993 (by decide) (by decide +kernel) rfl h5 h6 h7 (by decide) (by decide) ⟨Nat.le_refl _, Nat.le_refl _⟩ (by decide) dj_gby_1 ?_
  rintro v H1 L ⟨rfl, rfl⟩ hL
  have hS : va_S (jA b d) s.heap s.heap L := ⟨Nat.le_refl _, fun _ _ _ => rfl, fun q hq => (hL q hq).elim⟩
  refine lv_iload_n hx hb dj_gby_4 rfl (lv_at hl 3 rfl) ?_
  refine lv_icmp_ne (tgt := 28) hx hb dj_gby_5 (by decide) (fun q => absurd rfl q) (fun _ => ?_)
  refine lv_aload_n hx hb dj_gby_8 rfl (lv_at hl 0 rfl) ?_
  refine vk_getf hx hb h2 hS hown (hts _ j_w1367) (fun _ h => h) dj_gby_9 ?_
  refine lv_iconst (v := 0) hx hb dj_gby_12 (by decide) ?_
  refine lv_aload_n hx hb dj_gby_13 rfl (lv_at hl 1 rfl) ?_
  refine lv_iload_n hx hb dj_gby_14 rfl (lv_at hl 2 rfl) ?_
  refine lv_iload_n hx hb dj_gby_15 rfl (lv_at hl 3 rfl) ?_
  refine lv_ishl hx hb dj_gby_16 ?_
  rw [sb_shl0]
  refine lv_aload_n hx hb dj_gby_17 rfl (lv_at hl 0 rfl) ?_
  refine vk_getf hx hb h2 hS hown (hts _ j_w1367) (fun _ h => h) dj_gby_18 ?_
  refine va_tlen hx hb h4 hS (v := nI w) rfl dj_gby_21 ?_
  have e1 : (nI n).toNatClampNeg = n := nI_clamp (by omega)
  have e2 : (nI w).toNatClampNeg = w := nI_clamp (by omega)
  refine vk_copyt hx hb (hml.trans hl.1.symm) hown (hts _ j_w1282) (hts _ j_w353) (hts _ j_w352) (hts _ j_w14) hK hP (j_D hbd) hS h4 1 0 rfl rfl (by decide) (nI_pos (by omega)) (nI_pos (by omega)) (by rw [e2]; show 0 + w ≤ w; omega) (by rw [e1, e2]; omega) (fun i hi => ?_) (by decide) (by decide) dj_gby_22 (fun H2 locs2 hP hD hS => ?_)
  · rw [e2] at hi
    have : fits .byte (.int (nI (t (0 + i)))) = true := j_fitb _ (ht _ (by omega))
    exact this
  rw [e1, e2] at hP
  refine lv_goto (tgt := 43) hx hb dj_gby_25 (by decide) ?_
  exact jret_v hx hb hr hlk ⟨rfl, hP, hS.bare⟩ hS.2.2 (Nat.le_refl _) (Nat.le_refl _) dj_gby_43
theorem mj_put {t : Nat → Nat} (hB : jB D cA b d n f u0 H0) (hs : jStr a z w (fun j => nI (t j)) (jA b d) u0 H0) (hw : n + w ≤ 16) (ht : ∀ j, j < w → t j < 128) : jM l jy_put jc_put 3 jr_put 2 47 0 0 u0 H0 [.ref b, .int (nI n), .ref a] (jA b d) (fun v H1 => v = none ∧ va_P D jcl (jw b d cA (va_cpy (fun j => nI (t j)) f 0 n w) n) H1 ∧ va_S (jA b d) H0 H1 []) := by
  refine jM.of (by decide +kernel) (Nat.le_of_ble_eq_true rfl) ?_
  rintro p e s m below meth c ls ⟨hx, hb, hr, hml, hts, hown, hlk, hal, rfl⟩ hl
  have hl : lv_has ls 3 [(0, .ref b), (1, .int (nI n)), (2, .ref a)] := hl
  have hB := hB.moved hal
  obtain ⟨hK, hP, hbd, hZ⟩ := id hB
  have hs := hs.moved hal
  obtain ⟨-, h2, -, h4, cell, h5, h6, h7, -⟩ := id hs
  obtain ⟨cb, g5, g6, g7, -⟩ := hB.cell
  refine lv_aload_n hx hb dj_put_0 rfl (lv_at hl 0 rfl) ?_
  refine lv_aload_n hx hb dj_put_1 rfl (lv_at hl 2 rfl) ?_
  refine jU (C := "java/lang/StringBuilder") (al := [.ref a]) (rest := []) (k := 1) (ix := 397) (mj_inf l (u0 := s) (H0 := s.heap) hB hs) hx hb (hml.trans hl.1.symm) hown hts (hts _ j_w1254) j_w1256 j_w28 j_w1257 (hts _ (List.mem_append_right _ j_X_inf)) j_w1396 (by decide) (by decide +kernel) rfl g5 g6 g7 (by decide) (by decide) ⟨Nat.le_refl _, Nat.le_refl _⟩ (by decide) dj_put_2 ?_
  rintro v H1 L ⟨rfl, rfl⟩ hL
  refine lv_aload_n hx hb dj_put_5 rfl (lv_at hl 2 rfl) ?_
  refine lv_aload_n hx hb dj_put_6 rfl (lv_at hl 0 rfl) ?_
  refine va_get (C := RJ4) (T := TJ4) (N := 4) (ci := 0) (v := .ref d) hx hb hts j_bw hown hK hP 0 rfl rfl 0 (by decide) (hts _ j_w1171) (fun _ h => h) rfl dj_put_7 ?_
  refine lv_iload_n hx hb dj_put_10 rfl (lv_at hl 1 rfl) ?_
  refine lv_aload_n hx hb dj_put_11 rfl (lv_at hl 0 rfl) ?_
  refine va_get (C := RJ4) (T := TJ4) (N := 4) (ci := 0) (v := .int 0) hx hb hts j_bw hown hK hP 0 rfl rfl 1 (by decide) (hts _ j_w1172) (fun _ h => h) rfl dj_put_12 ?_
  refine jV (C := "java/lang/String") (al := [.ref d, .int (nI n), .int 0]) (rest := []) (k := 3) (ix := 399) (mj_gby l (u0 := s) (H0 := s.heap) hB hs hw ht) hx hb (hml.trans hl.1.symm) hown hts (hts _ j_w1278) j_w1279 j_w20 j_w1281 j_w1280 (by decide) (by decide +kernel) rfl h5 h6 h7 (by decide) (by decide) ⟨Nat.le_refl _, Nat.le_refl _⟩ (by decide) dj_put_15 ?_
  rintro v H1 L2 ⟨rfl, h8, h9⟩ hL2
  exact jret_v hx hb hr hlk ⟨rfl, h8, h9⟩ (fun q hq => (List.mem_append.mp hq).elim (fun h => (hL q h).elim) (hL2 q)) (Nat.le_refl _) (Nat.le_refl _) dj_put_18
theorem mj_aas {t : Nat → Nat} (hB : jB D cA b d n f u0 H0) (hs : jStr a z w (fun j => nI (t j)) (jA b d) u0 H0) (hw : n + w ≤ 16) (ht : ∀ j, j < w → t j < 128) : jM l jy_aas jc_aas 3 jr_aas 3 70 0 0 u0 H0 [.ref b, .ref a] (jA b d) (fun v H1 => v = some (.ref b) ∧ va_P D jcl (jw b d cA (va_cpy (fun j => nI (t j)) f 0 n w) (n + w)) H1 ∧ va_S (jA b d) H0 H1 []) := by
  refine jM.of (by decide +kernel) (Nat.le_of_ble_eq_true rfl) ?_
  rintro p e s m below meth c ls ⟨hx, hb, hr, hml, hts, hown, hlk, hal, rfl⟩ hl
  have hl : lv_has ls 3 [(0, .ref b), (1, .ref a)] := hl
  have hB := hB.moved hal
  obtain ⟨hK, hP, hbd, hZ⟩ := id hB
  have hs := hs.moved hal
  obtain ⟨-, h2, -, h4, cell, h5, h6, h7, -⟩ := id hs
  obtain ⟨cb, g5, g6, g7, -⟩ := hB.cell
  refine lv_aload_n hx hb dj_aas_0 rfl (lv_at hl 1 rfl) ?_
  refine lv_ifnonnull (tgt := 9) hx hb dj_aas_1 (by decide) ?_
  refine lv_aload_n hx hb dj_aas_9 rfl (lv_at hl 1 rfl) ?_
  refine jV (C := "java/lang/String") (al := []) (rest := []) (k := 0) (ix := 32) (mj_slen l (u0 := s) (H0 := s.heap) hs) hx hb (hml.trans hl.1.symm) hown hts (hts _ j_w1249) j_w988 j_w20 j_w990 j_w989 (by decide) (by decide +kernel) rfl h5 h6 h7 (by decide) (by decide) ⟨Nat.le_refl _, Nat.le_refl _⟩ (by decide) dj_aas_10 ?_
  rintro v H1 L ⟨rfl, rfl⟩ hL
  refine lv_istore_n (lv' := [(2, .int (nI w)), (0, .ref b), (1, .ref a)]) hx hb dj_aas_13 rfl hl (by decide) rfl (fun ls hl => ?_)
  refine lv_aload_n hx hb dj_aas_14 rfl (lv_at hl 1 rfl) ?_
  refine lv_aload_n hx hb dj_aas_15 rfl (lv_at hl 1 rfl) ?_
  refine va_get (C := RJ4) (T := TJ4) (N := 4) (ci := 0) (v := .int (nI n)) hx hb hts j_bw hown hK hP 0 rfl rfl 3 (by decide) (hts _ j_w1174) (fun _ h => h) rfl dj_aas_16 ?_
  refine lv_iload_n hx hb dj_aas_19 rfl (lv_at hl 0 rfl) ?_
  refine lv_iadd hx hb dj_aas_20 ?_
  rw [nI_add]
  refine jU (C := "java/lang/StringBuilder") (al := [.int (nI (n + w))]) (rest := []) (k := 1) (ix := 100) (mj_ens l (u0 := s) (H0 := s.heap) hB hw) hx hb (hml.trans hl.1.symm) hown hts (hts _ j_w1196) j_w1198 j_w28 j_w1199 (hts _ (List.mem_append_right _ j_X_ens)) j_w1393 (by decide) (by decide +kernel) rfl g5 g6 g7 (by decide) (by decide) ⟨Nat.le_refl _, Nat.le_refl _⟩ (by decide) dj_aas_21 ?_
  rintro v H1 L2 ⟨rfl, rfl⟩ hL2
  refine lv_aload_n hx hb dj_aas_24 rfl (lv_at hl 1 rfl) ?_
  refine lv_aload_n hx hb dj_aas_25 rfl (lv_at hl 1 rfl) ?_
  refine va_get (C := RJ4) (T := TJ4) (N := 4) (ci := 0) (v := .int (nI n)) hx hb hts j_bw hown hK hP 0 rfl rfl 3 (by decide) (hts _ j_w1174) (fun _ h => h) rfl dj_aas_26 ?_
  refine lv_aload_n hx hb dj_aas_29 rfl (lv_at hl 2 rfl) ?_
  refine jU (C := "java/lang/StringBuilder") (al := [.int (nI n), .ref a]) (rest := []) (k := 2) (ix := 208) (mj_put l (u0 := s) (H0 := s.heap) hB hs hw ht) hx hb (hml.trans hl.1.symm) hown hts (hts _ j_w1250) j_w1252 j_w28 j_w1253 (hts _ (List.mem_append_right _ j_X_put)) j_w1395 (by decide) (by decide +kernel) rfl g5 g6 g7 (by decide) (by decide) ⟨Nat.le_refl _, Nat.le_refl _⟩ (by decide) dj_aas_30 ?_
  rintro v H1 L3 ⟨rfl, hP, h9⟩ hL3
  have hS := h9.locs (l1 := [] ++ L ++ L2) (L := L3) (fun q hq => (List.mem_append.mp hq).elim (fun h => (hL q h).elim) (fun h => (hL2 q h).elim)) hL3
  have hD := j_D (n := n) (cA := cA) (f := va_cpy (fun j => nI (t j)) f 0 n w) hbd
  refine lv_aload_n hx hb dj_aas_33 rfl (lv_at hl 1 rfl) ?_
  refine lv_dup hx hb dj_aas_34 rfl ?_
  refine va_get (C := RJ4) (T := TJ4) (N := 4) (ci := 0) (v := .int (nI n)) hx hb hts j_bw hown hK hP 0 rfl rfl 3 (by decide) (hts _ j_w1174) (fun _ h => h) rfl dj_aas_35 ?_
  refine lv_iload_n hx hb dj_aas_38 rfl (lv_at hl 0 rfl) ?_
  refine lv_iadd hx hb dj_aas_39 ?_
  rw [nI_add]
  refine va_put (C := RJ4) (T := TJ4) (N := 4) (ci := 0) hx hb hts j_bw tyJ4 tyJ4_ok nmJ4 hown hK hP hD hS 0 rfl rfl 3 (by decide) (hts _ j_w1174) (fun _ h => h) rfl (ty := .int) (v := .int (nI (n + w))) (by decide +kernel) rfl rfl (show (3 : Nat) < 4 by decide) dj_aas_40 (fun H2 locs2 hP hD hS => ?_)
  refine lv_aload_n hx hb dj_aas_43 rfl (lv_at hl 1 rfl) ?_
  exact jret_a hx hb hr (Or.inl ⟨_, rfl⟩) hlk ⟨rfl, hP, hS.bare⟩ hS.2.2 (Nat.le_refl _) (Nat.le_refl _) dj_aas_44
theorem mj_bas {t : Nat → Nat} (hB : jB D cA b d n f u0 H0) (hs : jStr a z w (fun j => nI (t j)) (jA b d) u0 H0) (hw : n + w ≤ 16) (ht : ∀ j, j < w → t j < 128) : jM l jy_bas jc_bas 2 jr_bas 4 92 0 0 u0 H0 [.ref b, .ref a] (jA b d) (fun v H1 => v = some (.ref b) ∧ va_P D jcl (jw b d cA (va_cpy (fun j => nI (t j)) f 0 n w) (n + w)) H1 ∧ va_S (jA b d) H0 H1 []) := by
  refine jM.of (by decide +kernel) (Nat.le_of_ble_eq_true rfl) ?_
  rintro p e s m below meth c ls ⟨hx, hb, hr, hml, hts, hown, hlk, hal, rfl⟩ hl
  have hl : lv_has ls 2 [(0, .ref b), (1, .ref a)] := hl
  have hB := hB.moved hal
  have hs := hs.moved hal
  obtain ⟨cb, g5, g6, -, kC, g8⟩ := hB.cell
  refine lv_aload_n hx hb dj_bas_0 rfl (lv_at hl 0 rfl) ?_
  refine lv_aload_n hx hb dj_bas_1 rfl (lv_at hl 1 rfl) ?_
  refine jSU (al := [.ref a]) (rest := []) (k := 1) (ix := 29) (mj_aas l (u0 := s) (H0 := s.heap) hB hs hw ht) hx hb (hml.trans hl.1.symm) hown hts (hts _ j_w1189) j_w1190 j_w28 j_w1191 j_w1183 j_w1391 (by decide) (by decide +kernel) rfl g5 g6 g8 (by decide) (by decide) ⟨Nat.le_refl _, Nat.le_refl _⟩ (by decide) dj_bas_2 ?_
  rintro v H1 L ⟨rfl, h8, h9⟩ hL
  refine lv_pop hx hb dj_bas_5 rfl ?_
  refine lv_aload_n hx hb dj_bas_6 rfl (lv_at hl 0 rfl) ?_
  exact jret_a hx hb hr (Or.inl ⟨_, rfl⟩) hlk ⟨rfl, h8, h9⟩ hL (Nat.le_refl _) (Nat.le_refl _) dj_bas_7
end JA1
