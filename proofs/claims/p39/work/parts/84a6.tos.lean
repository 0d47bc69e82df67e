/-! THE JDK's OWN METHODS: the String out of a StringBuilder -/
abbrev jy_ckl : MethodName := ⟨"java/util/Arrays", "checkLength", "(II)V"⟩
abbrev jc_ckl : ByteArray := prog_39_method_131_code
abbrev jr_ckl : Option FieldType := (Option.none : Option Jvm.ClassFile.FieldType)
abbrev jy_corb : MethodName := ⟨"java/util/Arrays", "copyOfRangeByte", "([BII)[B"⟩
abbrev jc_corb : ByteArray := prog_39_method_133_code
abbrev jr_corb : Option FieldType := (Option.some (Jvm.ClassFile.FieldType.array Jvm.ClassFile.FieldType.byte))
abbrev jy_cor : MethodName := ⟨"java/util/Arrays", "copyOfRange", "([BII)[B"⟩
abbrev jc_cor : ByteArray := prog_39_method_132_code
abbrev jr_cor : Option FieldType := (Option.some (Jvm.ClassFile.FieldType.array Jvm.ClassFile.FieldType.byte))
abbrev jy_blen : MethodName := ⟨"java/lang/StringBuilder", "length", "()I"⟩
abbrev jc_blen : ByteArray := prog_31_method_93_code
abbrev jr_blen : Option FieldType := (Option.some Jvm.ClassFile.FieldType.int)
abbrev jy_sia : MethodName := ⟨"java/lang/String", "<init>", "(Ljava/lang/AbstractStringBuilder;Ljava/lang/Void;)V"⟩
abbrev jc_sia : ByteArray := prog_30_method_150_code
abbrev jr_sia : Option FieldType := (Option.none : Option Jvm.ClassFile.FieldType)
abbrev jy_sib : MethodName := ⟨"java/lang/String", "<init>", "(Ljava/lang/StringBuilder;)V"⟩
abbrev jc_sib : ByteArray := prog_30_method_53_code
abbrev jr_sib : Option FieldType := (Option.none : Option Jvm.ClassFile.FieldType)
abbrev jy_bts : MethodName := ⟨"java/lang/StringBuilder", "toString", "()Ljava/lang/String;"⟩
abbrev jc_bts : ByteArray := prog_31_method_42_code
abbrev jr_bts : Option FieldType := (Option.some (Jvm.ClassFile.FieldType.object "java/lang/String"))
theorem j_w1343 : Jvm.Cond.methodLink "java/util/Arrays" (343 : Nat) ({ cls := "java/util/Arrays", name := "checkLength", desc := "(II)V" } : Jvm.MethodName) ∈ j_W := j_at_in (i := 1352) (by decide +kernel)
theorem j_w1344 : Jvm.Cond.static ({ cls := "java/util/Arrays", name := "checkLength", desc := "(II)V" } : Jvm.MethodName) ∈ j_W := j_at_in (i := 1353) (by decide +kernel)
theorem j_w32 : Jvm.Cond.initialized "java/util/Arrays" ∈ j_W := j_at_in (i := 41) (by decide +kernel)
theorem j_w1345 : Jvm.Cond.code ({ cls := "java/util/Arrays", name := "checkLength", desc := "(II)V" } : Jvm.MethodName) prog_39_method_131_code (2 : Nat) (Option.none : Option Jvm.ClassFile.FieldType) ∈ j_W := j_at_in (i := 1354) (by decide +kernel)
theorem j_w1225 : Jvm.Cond.methodLink "java/util/Arrays" (304 : Nat) ({ cls := "java/lang/Math", name := "min", desc := "(II)I" } : Jvm.MethodName) ∈ j_W := j_at_in (i := 1234) (by decide +kernel)
theorem j_w1226 : Jvm.Cond.static ({ cls := "java/lang/Math", name := "min", desc := "(II)I" } : Jvm.MethodName) ∈ j_W := j_at_in (i := 1235) (by decide +kernel)
theorem j_w31 : Jvm.Cond.initialized "java/lang/Math" ∈ j_W := j_at_in (i := 40) (by decide +kernel)
theorem j_w1227 : Jvm.Cond.code ({ cls := "java/lang/Math", name := "min", desc := "(II)I" } : Jvm.MethodName) prog_27_method_69_code (2 : Nat) (Option.some Jvm.ClassFile.FieldType.int) ∈ j_W := j_at_in (i := 1236) (by decide +kernel)
theorem j_w1228 : Jvm.Cond.methodLink "java/util/Arrays" (150 : Nat) ({ cls := "java/lang/System", name := "arraycopy", desc := "(Ljava/lang/Object;ILjava/lang/Object;II)V" } : Jvm.MethodName) ∈ j_W := j_at_in (i := 1237) (by decide +kernel)
theorem j_w1340 : Jvm.Cond.methodLink "java/util/Arrays" (339 : Nat) ({ cls := "java/util/Arrays", name := "copyOfRangeByte", desc := "([BII)[B" } : Jvm.MethodName) ∈ j_W := j_at_in (i := 1349) (by decide +kernel)
theorem j_w1341 : Jvm.Cond.static ({ cls := "java/util/Arrays", name := "copyOfRangeByte", desc := "([BII)[B" } : Jvm.MethodName) ∈ j_W := j_at_in (i := 1350) (by decide +kernel)
theorem j_w1342 : Jvm.Cond.code ({ cls := "java/util/Arrays", name := "copyOfRangeByte", desc := "([BII)[B" } : Jvm.MethodName) prog_39_method_133_code (5 : Nat) (Option.some (Jvm.ClassFile.FieldType.array Jvm.ClassFile.FieldType.byte)) ∈ j_W := j_at_in (i := 1351) (by decide +kernel)
theorem j_w1334 : Jvm.Cond.methodLink "java/lang/StringBuilder" (343 : Nat) ({ cls := "java/lang/AbstractStringBuilder", name := "length", desc := "()I" } : Jvm.MethodName) ∈ j_W := j_at_in (i := 1343) (by decide +kernel)
theorem j_w1329 : Jvm.Cond.instanceMethod ({ cls := "java/lang/AbstractStringBuilder", name := "length", desc := "()I" } : Jvm.MethodName) ∈ j_W := j_at_in (i := 1338) (by decide +kernel)
theorem j_w1335 : Jvm.Cond.code ({ cls := "java/lang/AbstractStringBuilder", name := "length", desc := "()I" } : Jvm.MethodName) prog_13_method_6_code (1 : Nat) (Option.some Jvm.ClassFile.FieldType.int) ∈ j_W := j_at_in (i := 1344) (by decide +kernel)
theorem j_w1330 : Jvm.Cond.sameMethod "java/lang/AbstractStringBuilder" "java/lang/AbstractStringBuilder" "length" "()I" ∈ j_W := j_at_in (i := 1339) (by decide +kernel)
theorem j_w1322 : Jvm.Cond.methodLink "java/lang/String" (1 : Nat) ({ cls := "java/lang/Object", name := "<init>", desc := "()V" } : Jvm.MethodName) ∈ j_W := j_at_in (i := 1331) (by decide +kernel)
theorem j_w1323 : Jvm.Cond.methodLink "java/lang/String" (552 : Nat) ({ cls := "java/lang/AbstractStringBuilder", name := "getValue", desc := "()[B" } : Jvm.MethodName) ∈ j_W := j_at_in (i := 1332) (by decide +kernel)
theorem j_w1324 : Jvm.Cond.instanceMethod ({ cls := "java/lang/AbstractStringBuilder", name := "getValue", desc := "()[B" } : Jvm.MethodName) ∈ j_W := j_at_in (i := 1333) (by decide +kernel)
theorem j_w1327 : Jvm.Cond.code ({ cls := "java/lang/AbstractStringBuilder", name := "getValue", desc := "()[B" } : Jvm.MethodName) prog_13_method_64_code (1 : Nat) (Option.some (Jvm.ClassFile.FieldType.array Jvm.ClassFile.FieldType.byte)) ∈ j_W := j_at_in (i := 1336) (by decide +kernel)
theorem j_w1326 : Jvm.Cond.selects "java/lang/StringBuilder" ({ cls := "java/lang/AbstractStringBuilder", name := "getValue", desc := "()[B" } : Jvm.MethodName) ({ cls := "java/lang/AbstractStringBuilder", name := "getValue", desc := "()[B" } : Jvm.MethodName) ∈ j_W := j_at_in (i := 1335) (by decide +kernel)
theorem j_w1325 : Jvm.Cond.sameMethod "java/lang/AbstractStringBuilder" "java/lang/AbstractStringBuilder" "getValue" "()[B" ∈ j_W := j_at_in (i := 1334) (by decide +kernel)
theorem j_w1328 : Jvm.Cond.methodLink "java/lang/String" (549 : Nat) ({ cls := "java/lang/AbstractStringBuilder", name := "length", desc := "()I" } : Jvm.MethodName) ∈ j_W := j_at_in (i := 1337) (by decide +kernel)
theorem j_w1332 : Jvm.Cond.instanceMethod ({ cls := "java/lang/StringBuilder", name := "length", desc := "()I" } : Jvm.MethodName) ∈ j_W := j_at_in (i := 1341) (by decide +kernel)
theorem j_w29 : Jvm.Cond.initialized "java/lang/StringBuilder" ∈ j_W := j_at_in (i := 38) (by decide +kernel)
theorem j_w1333 : Jvm.Cond.code ({ cls := "java/lang/StringBuilder", name := "length", desc := "()I" } : Jvm.MethodName) prog_31_method_93_code (1 : Nat) (Option.some Jvm.ClassFile.FieldType.int) ∈ j_W := j_at_in (i := 1342) (by decide +kernel)
theorem j_w1331 : Jvm.Cond.selects "java/lang/StringBuilder" ({ cls := "java/lang/AbstractStringBuilder", name := "length", desc := "()I" } : Jvm.MethodName) ({ cls := "java/lang/StringBuilder", name := "length", desc := "()I" } : Jvm.MethodName) ∈ j_W := j_at_in (i := 1340) (by decide +kernel)
theorem j_w1336 : Jvm.Cond.methodLink "java/lang/String" (1047 : Nat) ({ cls := "java/lang/AbstractStringBuilder", name := "isLatin1", desc := "()Z" } : Jvm.MethodName) ∈ j_W := j_at_in (i := 1345) (by decide +kernel)
theorem j_w1337 : Jvm.Cond.methodLink "java/lang/String" (54 : Nat) ({ cls := "java/util/Arrays", name := "copyOfRange", desc := "([BII)[B" } : Jvm.MethodName) ∈ j_W := j_at_in (i := 1346) (by decide +kernel)
theorem j_w1338 : Jvm.Cond.static ({ cls := "java/util/Arrays", name := "copyOfRange", desc := "([BII)[B" } : Jvm.MethodName) ∈ j_W := j_at_in (i := 1347) (by decide +kernel)
theorem j_w1339 : Jvm.Cond.code ({ cls := "java/util/Arrays", name := "copyOfRange", desc := "([BII)[B" } : Jvm.MethodName) prog_39_method_132_code (3 : Nat) (Option.some (Jvm.ClassFile.FieldType.array Jvm.ClassFile.FieldType.byte)) ∈ j_W := j_at_in (i := 1348) (by decide +kernel)
theorem j_w1319 : Jvm.Cond.methodLink "java/lang/String" (489 : Nat) ({ cls := "java/lang/String", name := "<init>", desc := "(Ljava/lang/AbstractStringBuilder;Ljava/lang/Void;)V" } : Jvm.MethodName) ∈ j_W := j_at_in (i := 1328) (by decide +kernel)
theorem j_w1320 : Jvm.Cond.instanceMethod ({ cls := "java/lang/String", name := "<init>", desc := "(Ljava/lang/AbstractStringBuilder;Ljava/lang/Void;)V" } : Jvm.MethodName) ∈ j_W := j_at_in (i := 1329) (by decide +kernel)
theorem j_w1321 : Jvm.Cond.code ({ cls := "java/lang/String", name := "<init>", desc := "(Ljava/lang/AbstractStringBuilder;Ljava/lang/Void;)V" } : Jvm.MethodName) prog_30_method_150_code (5 : Nat) (Option.none : Option Jvm.ClassFile.FieldType) ∈ j_W := j_at_in (i := 1330) (by decide +kernel)
theorem j_w1315 : Jvm.Cond.classLink "java/lang/StringBuilder" (18 : Nat) "java/lang/String" ∈ j_W := j_at_in (i := 1324) (by decide +kernel)
theorem j_w659 : Jvm.Cond.instantiable "java/lang/String" (4 : Nat) ∈ j_W := j_at_in (i := 668) (by decide +kernel)
theorem j_w1316 : Jvm.Cond.methodLink "java/lang/StringBuilder" (137 : Nat) ({ cls := "java/lang/String", name := "<init>", desc := "(Ljava/lang/StringBuilder;)V" } : Jvm.MethodName) ∈ j_W := j_at_in (i := 1325) (by decide +kernel)
theorem j_w1317 : Jvm.Cond.instanceMethod ({ cls := "java/lang/String", name := "<init>", desc := "(Ljava/lang/StringBuilder;)V" } : Jvm.MethodName) ∈ j_W := j_at_in (i := 1326) (by decide +kernel)
theorem j_w1318 : Jvm.Cond.code ({ cls := "java/lang/String", name := "<init>", desc := "(Ljava/lang/StringBuilder;)V" } : Jvm.MethodName) prog_30_method_53_code (2 : Nat) (Option.none : Option Jvm.ClassFile.FieldType) ∈ j_W := j_at_in (i := 1327) (by decide +kernel)
theorem dj_ckl_0 : decode jc_ckl 0 = .ok (.iload_n 1, 1) := by decide +kernel
theorem dj_ckl_1 : decode jc_ckl 1 = .ok (.iload_n 0, 1) := by decide +kernel
theorem dj_ckl_2 : decode jc_ckl 2 = .ok (.if_icmp .ge 35, 3) := by decide +kernel
theorem dj_ckl_37 : decode jc_ckl 37 = .ok (.return_, 1) := by decide +kernel
theorem dj_corb_0 : decode jc_corb 0 = .ok (.iload_n 1, 1) := by decide +kernel
theorem dj_corb_1 : decode jc_corb 1 = .ok (.iload_n 2, 1) := by decide +kernel
theorem dj_corb_2 : decode jc_corb 2 = .ok (.invokestatic 343, 3) := by decide +kernel
theorem dj_corb_5 : decode jc_corb 5 = .ok (.iload_n 2, 1) := by decide +kernel
theorem dj_corb_6 : decode jc_corb 6 = .ok (.iload_n 1, 1) := by decide +kernel
theorem dj_corb_7 : decode jc_corb 7 = .ok (.isub, 1) := by decide +kernel
theorem dj_corb_8 : decode jc_corb 8 = .ok (.istore_n 3, 1) := by decide +kernel
theorem dj_corb_9 : decode jc_corb 9 = .ok (.iload_n 3, 1) := by decide +kernel
theorem dj_corb_10 : decode jc_corb 10 = .ok (.newarray .byte, 2) := by decide +kernel
theorem dj_corb_12 : decode jc_corb 12 = .ok (.astore 4, 2) := by decide +kernel
theorem dj_corb_14 : decode jc_corb 14 = .ok (.aload_n 0, 1) := by decide +kernel
theorem dj_corb_15 : decode jc_corb 15 = .ok (.iload_n 1, 1) := by decide +kernel
theorem dj_corb_16 : decode jc_corb 16 = .ok (.aload 4, 2) := by decide +kernel
theorem dj_corb_18 : decode jc_corb 18 = .ok (.iconst 0, 1) := by decide +kernel
theorem dj_corb_19 : decode jc_corb 19 = .ok (.aload_n 0, 1) := by decide +kernel
theorem dj_corb_20 : decode jc_corb 20 = .ok (.arraylength, 1) := by decide +kernel
theorem dj_corb_21 : decode jc_corb 21 = .ok (.iload_n 1, 1) := by decide +kernel
theorem dj_corb_22 : decode jc_corb 22 = .ok (.isub, 1) := by decide +kernel
theorem dj_corb_23 : decode jc_corb 23 = .ok (.iload_n 3, 1) := by decide +kernel
theorem dj_corb_24 : decode jc_corb 24 = .ok (.invokestatic 304, 3) := by decide +kernel
theorem dj_corb_27 : decode jc_corb 27 = .ok (.invokestatic 150, 3) := by decide +kernel
theorem dj_corb_30 : decode jc_corb 30 = .ok (.aload 4, 2) := by decide +kernel
theorem dj_corb_32 : decode jc_corb 32 = .ok (.areturn, 1) := by decide +kernel
theorem dj_cor_0 : decode jc_cor 0 = .ok (.iload_n 1, 1) := by decide +kernel
theorem dj_cor_1 : decode jc_cor 1 = .ok (.ifCond .ne 9, 3) := by decide +kernel
theorem dj_cor_4 : decode jc_cor 4 = .ok (.iload_n 2, 1) := by decide +kernel
theorem dj_cor_5 : decode jc_cor 5 = .ok (.aload_n 0, 1) := by decide +kernel
theorem dj_cor_6 : decode jc_cor 6 = .ok (.arraylength, 1) := by decide +kernel
theorem dj_cor_7 : decode jc_cor 7 = .ok (.if_icmp .eq 10, 3) := by decide +kernel
theorem dj_cor_10 : decode jc_cor 10 = .ok (.aload_n 0, 1) := by decide +kernel
theorem dj_cor_11 : decode jc_cor 11 = .ok (.iload_n 1, 1) := by decide +kernel
theorem dj_cor_12 : decode jc_cor 12 = .ok (.iload_n 2, 1) := by decide +kernel
theorem dj_cor_13 : decode jc_cor 13 = .ok (.invokestatic 339, 3) := by decide +kernel
theorem dj_cor_16 : decode jc_cor 16 = .ok (.areturn, 1) := by decide +kernel
theorem dj_blen_0 : decode jc_blen 0 = .ok (.aload_n 0, 1) := by decide +kernel
theorem dj_blen_1 : decode jc_blen 1 = .ok (.invokespecial 343, 3) := by decide +kernel
theorem dj_blen_4 : decode jc_blen 4 = .ok (.ireturn, 1) := by decide +kernel
theorem dj_sia_0 : decode jc_sia 0 = .ok (.aload_n 0, 1) := by decide +kernel
theorem dj_sia_1 : decode jc_sia 1 = .ok (.invokespecial 1, 3) := by decide +kernel
theorem dj_sia_4 : decode jc_sia 4 = .ok (.aload_n 1, 1) := by decide +kernel
theorem dj_sia_5 : decode jc_sia 5 = .ok (.invokevirtual 552, 3) := by decide +kernel
theorem dj_sia_8 : decode jc_sia 8 = .ok (.astore_n 3, 1) := by decide +kernel
theorem dj_sia_9 : decode jc_sia 9 = .ok (.aload_n 1, 1) := by decide +kernel
theorem dj_sia_10 : decode jc_sia 10 = .ok (.invokevirtual 549, 3) := by decide +kernel
theorem dj_sia_13 : decode jc_sia 13 = .ok (.istore 4, 2) := by decide +kernel
theorem dj_sia_15 : decode jc_sia 15 = .ok (.aload_n 1, 1) := by decide +kernel
theorem dj_sia_16 : decode jc_sia 16 = .ok (.invokevirtual 1047, 3) := by decide +kernel
theorem dj_sia_19 : decode jc_sia 19 = .ok (.ifCond .eq 22, 3) := by decide +kernel
theorem dj_sia_22 : decode jc_sia 22 = .ok (.aload_n 0, 1) := by decide +kernel
theorem dj_sia_23 : decode jc_sia 23 = .ok (.iconst 0, 1) := by decide +kernel
theorem dj_sia_24 : decode jc_sia 24 = .ok (.putfield 15, 3) := by decide +kernel
theorem dj_sia_27 : decode jc_sia 27 = .ok (.aload_n 0, 1) := by decide +kernel
theorem dj_sia_28 : decode jc_sia 28 = .ok (.aload_n 3, 1) := by decide +kernel
theorem dj_sia_29 : decode jc_sia 29 = .ok (.iconst 0, 1) := by decide +kernel
theorem dj_sia_30 : decode jc_sia 30 = .ok (.iload 4, 2) := by decide +kernel
theorem dj_sia_32 : decode jc_sia 32 = .ok (.invokestatic 54, 3) := by decide +kernel
theorem dj_sia_35 : decode jc_sia 35 = .ok (.putfield 9, 3) := by decide +kernel
theorem dj_sia_38 : decode jc_sia 38 = .ok (.goto 59, 3) := by decide +kernel
theorem dj_sia_97 : decode jc_sia 97 = .ok (.return_, 1) := by decide +kernel
theorem dj_sib_0 : decode jc_sib 0 = .ok (.aload_n 0, 1) := by decide +kernel
theorem dj_sib_1 : decode jc_sib 1 = .ok (.aload_n 1, 1) := by decide +kernel
theorem dj_sib_2 : decode jc_sib 2 = .ok (.aconst_null, 1) := by decide +kernel
theorem dj_sib_3 : decode jc_sib 3 = .ok (.invokespecial 489, 3) := by decide +kernel
theorem dj_sib_6 : decode jc_sib 6 = .ok (.return_, 1) := by decide +kernel
theorem dj_bts_0 : decode jc_bts 0 = .ok (.new 18, 3) := by decide +kernel
theorem dj_bts_3 : decode jc_bts 3 = .ok (.dup, 1) := by decide +kernel
theorem dj_bts_4 : decode jc_bts 4 = .ok (.aload_n 0, 1) := by decide +kernel
theorem dj_bts_5 : decode jc_bts 5 = .ok (.invokespecial 137, 3) := by decide +kernel
theorem dj_bts_8 : decode jc_bts 8 = .ok (.areturn, 1) := by decide +kernel
theorem jM.ofI {l : Launch} {y : MethodName} {cc : ByteArray} {n : Nat} {ret : Option FieldType} {fr lo mc ms : Nat} {u0 : State} {H0 : Heap} {av : List Value} {A : Nat → Prop} {post : Option Value → Heap → Prop} (hy : plainFor y = true) (hn : (lg_sl av).length ≤ n)
    (body : ∀ (p : Program) (e : Env) (s : State) (m : MethodId) (below : List Frame) (meth : Method) (c : Code) (ls : Array Slot), jAt p y cc n ret u0 H0 av s m meth c → meth.name = y.name → lv_has ls n (lv_args 0 av) → W p l e (jrm fr lo mc ms) s m av.toArray below meth c s.heap [] 0 0 (MQ below (jQ post) av.toArray s mc ms A) (F0 m 0 ls [])) :
    jM l y cc n ret fr lo mc ms u0 H0 av A post := by
  refine va_MetF (cc := cc) (maxL := n) (ret := ret) hy rfl ?_
  intro p e s m args below meth c s₁ B hml hv
  obtain ⟨rfl, hh, hal⟩ := hv
  have hts := atoms_spec (ws := jws y cc n ret) B.pre
  have hl := lv_entry av hn
  rw [lg_entry_eq]
  exact body p e s m below meth c _ ⟨B.exec, B.bytes, B.returns, hml, fun w h => hts w (List.mem_cons_of_mem _ h), findClass_of_methodNamed B.named, B.notSynchronized, hal, hh⟩ (name_of_methodNamed B.named B.method).1 hl
/-- a row of bytes, read alone -/
theorem j_T_of {D : va_G} {cA : ClassId} {d N : Nat} {f : Nat → Int32} {A : Nat → Prop} {U : State} {H : Heap} (hK : va_K D jcl [(cA, .byte)] U) (h : H[d]? = some (arrV cA N (fun j => .int (f j)))) (hA : ¬ A d) : va_T .byte d N (fun j => .int (f j)) A U H :=
  ⟨_, h, (hK.2 0 _ rfl).1 N (fun j => .int (f j)), (fun q => by cases q), Nat.le_of_eq (arrV_size _ _ _).symm, congrArg Nat.toInt32 (arrV_size _ _ _), fun j hj => arrV_read _ _ hj, hA⟩
theorem j_D2 {A : Nat → Prop} {a x : Nat} {e1 e2 : va_E} (hne : a ≠ x) (ha : A a) (hx : A x) : va_D A [(a, e1), (x, e2)] := by
  have key : ∀ (i : Nat) (q : Nat × va_E), ([(a, e1), (x, e2)] : va_W)[i]? = some q → (i = 0 ∧ q.1 = a) ∨ (i = 1 ∧ q.1 = x) := by
    intro i q hi
    match i, hi with
    | 0, hi => exact Or.inl ⟨rfl, by rw [← Option.some.inj hi]⟩
    | 1, hi => exact Or.inr ⟨rfl, by rw [← Option.some.inj hi]⟩
    | k + 2, hi => simp at hi
  refine ⟨fun i j q z hi hj e => ?_, fun i q hi => ?_⟩
  · rcases key i q hi with ⟨h1, h2⟩ | ⟨h1, h2⟩ <;> rcases key j z hj with ⟨h3, h4⟩ | ⟨h3, h4⟩
    · omega
    · exact absurd (h2.symm.trans (e.trans h4)) hne
    · exact absurd (h4.symm.trans (e.symm.trans h2)) hne
    · omega
  · rcases key i q hi with ⟨-, h2⟩ | ⟨-, h2⟩
    · rw [h2]; exact ha
    · rw [h2]; exact hx
abbrev jNw (z : Nat) : Nat → Prop := fun q => z ≤ q
section JTS
variable (l : Launch) {u0 : State} {H0 : Heap} {D : va_G} {cA : ClassId} {a b d n : Nat} {f : Nat → Int32}
theorem mj_ck (hn : n < 2147483648) : jM l jy_ckl jc_ckl 2 jr_ckl 0 0 0 0 u0 H0 [.int 0, .int (nI n)] jNo (fun v H => v = none ∧ H = H0) := by
  refine jM.of (by decide +kernel) (Nat.le_of_ble_eq_true rfl) ?_
  rintro p e s m below meth c ls ⟨hx, hb, hr, hml, hts, hown, hlk, hal, rfl⟩ hl
  have hl : lv_has ls 2 [(0, .int 0), (1, .int (nI n))] := hl
  refine lv_iload_n hx hb dj_ckl_0 rfl (lv_at hl 1 rfl) ?_
  refine lv_iload_n hx hb dj_ckl_1 rfl (lv_at hl 0 rfl) ?_
  refine lv_icmp_ge (tgt := 37) hx hb dj_ckl_2 (by decide) (fun _ => ?_) (fun q => absurd (nI_pos' (by omega)) q)
  exact jret_v hx hb hr hlk ⟨rfl, rfl⟩ j_nil (Nat.le_refl _) (Nat.le_refl _) dj_ckl_37
abbrev jCp (cA : ClassId) (f : Nat → Int32) (n : Nat) (H0 : Heap) (v : Option Value) (H1 : Heap) : Prop := v = some (.ref H0.size) ∧ (∃ f' : Nat → Int32, (∀ j, j < n → f' j = f j) ∧ H1[H0.size]? = some (arrV cA n (fun j => .int (f' j)))) ∧ va_S (jNw H0.size) H0 H1 []
theorem mj_corb (hK : va_K D jcl [(cA, .byte)] u0) (hd : H0[d]? = some (arrV cA 16 (fun j => .int (f j)))) (hn : n < 16) (hf : ∀ j, j < n → fits .byte (.int (f j)) = true) : jM l jy_corb jc_corb 5 jr_corb 1 26 1 16 u0 H0 [.ref d, .int 0, .int (nI n)] (jNw H0.size) (jCp cA f n H0) := by
  refine jM.of (by decide +kernel) (Nat.le_of_ble_eq_true rfl) ?_
  rintro p e s m below meth c ls ⟨hx, hb, hr, hml, hts, hown, hlk, hal, rfl⟩ hl
  have hl : lv_has ls 5 [(0, .ref d), (1, .int 0), (2, .int (nI n))] := hl
  have hK := va_K.moved hal hK
  have hdl : d < s.heap.size := (Array.getElem?_eq_some_iff.mp hd).1
  have hT : va_T .byte d 16 (fun j => .int (f j)) (jNw s.heap.size) s s.heap := j_T_of hK hd (Nat.not_le.mpr hdl)
  have e0 : nI n - 0 = nI n := pk_sub (a := n) (b := 0) (Nat.zero_le _)
  have e16 : (Int32.ofNat 16) - 0 = nI 16 := pk_sub (a := 16) (b := 0) (Nat.zero_le _)
  refine lv_iload_n hx hb dj_corb_0 rfl (lv_at hl 1 rfl) ?_
  refine lv_iload_n hx hb dj_corb_1 rfl (lv_at hl 2 rfl) ?_
  refine jS (av := [.int 0, .int (nI n)]) (rest := []) (k := 2) (ix := 343) (mj_ck l (u0 := s) (H0 := s.heap) (by omega)) hx hb (hml.trans hl.1.symm) hown hts (hts _ j_w1343) j_w1344 j_w32 j_w1345 (by decide) (by decide +kernel) rfl (by decide) (by decide) ⟨by decide, by decide⟩ (by decide) dj_corb_2 ?_
  rintro v H1 L ⟨rfl, rfl⟩ hL
  refine lv_iload_n hx hb dj_corb_5 rfl (lv_at hl 2 rfl) ?_
  refine lv_iload_n hx hb dj_corb_6 rfl (lv_at hl 1 rfl) ?_
  refine lv_isub hx hb dj_corb_7 ?_
  rw [e0]
  refine lv_istore_n (lv' := [(3, .int (nI n)), (0, .ref d), (1, .int 0), (2, .int (nI n))]) hx hb dj_corb_8 rfl hl (by decide) rfl (fun ls hl => ?_)
  refine lv_iload_n hx hb dj_corb_9 rfl (lv_at hl 0 rfl) ?_
  refine va_newaK hx hb (atype := .byte) (hts _ j_w660) rfl dj_corb_10 rfl (n := nI n) (N := n) (nI_pos (by omega)) (nI_clamp (by omega)) (by show n * 1 ≤ 536870912; omega) (by decide) (by show 0 + 0 + n ≤ 16; omega) rfl fun H2 cA' e1 z1 o1 _ hNm => ?_
  rw [show cA' = cA from Option.some.inj (hNm.symm.trans (hK.2 0 _ rfl).2)] at e1
  show W p l e _ s m _ below meth c H2 ([] ++ L) (0 + 0 + 1) (0 + 0 + n) _ (F0 m 12 ls [.ref s.heap.size])
  have hS : va_S (jNw s.heap.size) s.heap H2 ([] ++ L) := ⟨by omega, fun q q1 _ => o1 q q1, fun q hq => (hL q hq).elim⟩
  have hP : va_P D jcl [(s.heap.size, .inl (cA, n, .inl (fun _ => 0)))] H2 := by
    intro i x hi
    match i, hi with
    | 0, hi => cases hi; exact e1
    | k + 1, hi => simp at hi
  have hD : va_D (jNw s.heap.size) [(s.heap.size, .inl (cA, n, .inl (fun _ => 0)))] := by
    have key : ∀ (i : Nat) (x : Nat × va_E), ([(s.heap.size, .inl (cA, n, .inl (fun _ => 0)))] : va_W)[i]? = some x → i = 0 ∧ x.1 = s.heap.size := by
      intro i x hi
      match i, hi with
      | 0, hi => exact ⟨rfl, by rw [← Option.some.inj hi]⟩
      | k + 1, hi => simp at hi
    exact ⟨fun i j x z hi hj _ => (key i x hi).1.trans (key j z hj).1.symm, fun i x hi => Nat.le_of_eq (key i x hi).2.symm⟩
  refine lv_astore (lv' := [(4, .ref s.heap.size), (3, .int (nI n)), (0, .ref d), (1, .int 0), (2, .int (nI n))]) hx hb dj_corb_12 hl (by decide) rfl (fun ls hl => ?_)
  refine lv_aload_n hx hb dj_corb_14 rfl (lv_at hl 2 rfl) ?_
  refine lv_iload_n hx hb dj_corb_15 rfl (lv_at hl 3 rfl) ?_
  refine lv_aload hx hb dj_corb_16 (lv_at hl 0 rfl) ?_
  refine lv_iconst (v := 0) hx hb dj_corb_18 (by decide) ?_
  refine lv_aload_n hx hb dj_corb_19 rfl (lv_at hl 2 rfl) ?_
  refine va_tlen hx hb hT hS rfl dj_corb_20 ?_
  refine lv_iload_n hx hb dj_corb_21 rfl (lv_at hl 3 rfl) ?_
  refine lv_isub hx hb dj_corb_22 ?_
  rw [e16]
  refine lv_iload_n hx hb dj_corb_23 rfl (lv_at hl 1 rfl) ?_
  refine va_mmin hx hb (hml.trans hl.1.symm) hown (hts _ j_w1225) (hts _ j_w1226) (hts _ j_w31) (hts _ j_w1227) (by decide) (Nat.le_of_ble_eq_true rfl) (by decide) (by show 0 + 0 + n ≤ 16; omega) dj_corb_24 ?_
  rw [if_pos (nI_lt hn (by decide))]
  have e2 : (nI n).toNatClampNeg = n := nI_clamp (by omega)
  refine vk_copyt hx hb (hml.trans hl.1.symm) hown (hts _ j_w1228) (hts _ j_w353) (hts _ j_w352) (hts _ j_w14) hK hP hD hS hT 0 0 rfl rfl (by decide) (by decide) (nI_pos (by omega)) (by rw [e2]; show 0 + n ≤ 16; omega) (by rw [e2]; show 0 + n ≤ n; omega) (fun i hi => ?_) (by decide) (by decide) dj_corb_27 (fun H3 locs3 hP hD hS => ?_)
  · rw [e2] at hi
    have : fits .byte (.int (f (0 + i))) = true := hf _ (by omega)
    exact this
  rw [e2] at hP
  refine lv_aload hx hb dj_corb_30 (lv_at hl 0 rfl) ?_
  refine jret_a hx hb hr (Or.inr ⟨_, rfl⟩) hlk ⟨rfl, ⟨va_cpy f (fun _ => 0) 0 0 n, fun j hj => ?_, ?_⟩, hS.bare⟩ hS.2.2 (by decide) (by show 0 + 0 + n ≤ 16; omega) dj_corb_32
  · rw [pk_cpy_in (Nat.zero_le _) (by omega)]
    congr 1
    omega
  · exact hP 0 _ rfl
theorem mj_cor (hK : va_K D jcl [(cA, .byte)] u0) (hd : H0[d]? = some (arrV cA 16 (fun j => .int (f j)))) (hn : n < 16) (hf : ∀ j, j < n → fits .byte (.int (f j)) = true) : jM l jy_cor jc_cor 3 jr_cor 2 50 1 16 u0 H0 [.ref d, .int 0, .int (nI n)] (jNw H0.size) (jCp cA f n H0) := by
  refine jM.of (by decide +kernel) (Nat.le_of_ble_eq_true rfl) ?_
  rintro p e s m below meth c ls ⟨hx, hb, hr, hml, hts, hown, hlk, hal, rfl⟩ hl
  have hl : lv_has ls 3 [(0, .ref d), (1, .int 0), (2, .int (nI n))] := hl
  have hK := va_K.moved hal hK
  have hT : va_T .byte d 16 (fun j => .int (f j)) jNo s s.heap := j_T_of hK hd id
  refine lv_iload_n hx hb dj_cor_0 rfl (lv_at hl 1 rfl) ?_
  refine lv_if_ne (tgt := 10) hx hb dj_cor_1 (by decide) (fun q => absurd rfl q) (fun _ => ?_)
  refine lv_iload_n hx hb dj_cor_4 rfl (lv_at hl 2 rfl) ?_
  refine lv_aload_n hx hb dj_cor_5 rfl (lv_at hl 0 rfl) ?_
  refine va_tlen hx hb hT va_S.rf rfl dj_cor_6 ?_
  refine lv_icmp_eq (tgt := 17) hx hb dj_cor_7 (by decide) (fun q => absurd ((nI_eq (a := n) (b := 16) (by omega) (by decide)).mp q) (by omega)) (fun _ => ?_)
  refine lv_aload_n hx hb dj_cor_10 rfl (lv_at hl 0 rfl) ?_
  refine lv_iload_n hx hb dj_cor_11 rfl (lv_at hl 1 rfl) ?_
  refine lv_iload_n hx hb dj_cor_12 rfl (lv_at hl 2 rfl) ?_
  refine jS (av := [.ref d, .int 0, .int (nI n)]) (rest := []) (k := 3) (ix := 339) (mj_corb l (u0 := s) (H0 := s.heap) hK hd hn hf) hx hb (hml.trans hl.1.symm) hown hts (hts _ j_w1340) j_w1341 j_w32 j_w1342 (by decide) (by decide +kernel) rfl (by decide) (by decide) (by decide) (by decide) dj_cor_13 ?_
  rintro v H1 L ⟨rfl, h1, h2⟩ hL
  exact jret_a hx hb hr (Or.inr ⟨_, rfl⟩) hlk ⟨rfl, h1, h2⟩ hL (by decide) (by decide) dj_cor_16
theorem mj_blen (hB : jB D cA b d n f u0 H0) : jM l jy_blen jc_blen 1 jr_blen 1 20 0 0 u0 H0 [.ref b] jNo (fun v H => v = some (.int (nI n)) ∧ H = H0) := by
  refine jM.of (by decide +kernel) (Nat.le_of_ble_eq_true rfl) ?_
  rintro p e s m below meth c ls ⟨hx, hb, hr, hml, hts, hown, hlk, hal, rfl⟩ hl
  have hl : lv_has ls 1 [(0, .ref b)] := hl
  have hB := hB.moved hal
  obtain ⟨cb, g5, g6, -, kC, g8⟩ := hB.cell
  refine lv_aload_n hx hb dj_blen_0 rfl (lv_at hl 0 rfl) ?_
  refine jSU (al := []) (rest := []) (k := 0) (ix := 343) (mj_alen l (u0 := s) (H0 := s.heap) hB) hx hb (hml.trans hl.1.symm) hown hts (hts _ j_w1334) j_w1329 j_w28 j_w1335 j_w1183 j_w1330 (by decide) (by decide +kernel) rfl g5 g6 g8 (by decide) (by decide) ⟨Nat.le_refl _, Nat.le_refl _⟩ (by decide) dj_blen_1 ?_
  rintro v H1 L ⟨rfl, rfl⟩ hL
  exact jret_i hx hb hr rfl hlk ⟨rfl, rfl⟩ hL (Nat.le_refl _) (Nat.le_refl _) dj_blen_4
/-- the String's cell is filled; x: her bytes -/
abbrev jMk (D : va_G) (cA : ClassId) (f : Nat → Int32) (n a : Nat) (H0 H1 : Heap) : Prop := ∃ (x : Nat) (f' : Nat → Int32), (H0.size ≤ x ∧ a ≠ x) ∧ (∀ j, j < n → f' j = f j) ∧ va_P D jcl [(a, .inr (1, [.ref x, .int 0, .int 0, .int 0])), (x, .inl (cA, n, .inl f'))] H1 ∧ va_S (fun q => q = a ∨ H0.size ≤ q) H0 H1 []
theorem mj_sia (hB : jB D cA b d n f u0 H0) (ha : va_P D jcl [(a, .inr (1, [.null, .int 0, .int 0, .int 0]))] H0) (hab : a ≠ b) (had : a ≠ d) (hn : n < 16) (hf : ∀ j, j < n → fits .byte (.int (f j)) = true) : jM l jy_sia jc_sia 5 jr_sia 3 75 1 16 u0 H0 [.ref a, .ref b, .null] (fun q => q = a ∨ H0.size ≤ q) (fun v H1 => v = none ∧ jMk D cA f n a H0 H1) := by
  refine jM.ofI (by decide +kernel) (Nat.le_of_ble_eq_true rfl) ?_
  rintro p e s m below meth c ls ⟨hx, hb, hr, hml, hts, hown, hlk, hal, rfl⟩ hnm hl
  have hl : lv_has ls 5 [(0, .ref a), (1, .ref b), (2, .null)] := hl
  have hB := hB.moved hal
  obtain ⟨hK, hPb, hbd, hZ⟩ := id hB
  obtain ⟨cb, g5, g6, g7, -⟩ := hB.cell
  have hd : s.heap[d]? = some (arrV cA 16 (fun j => .int (f j))) := hPb 1 _ rfl
  have hal' : a < s.heap.size := (ha 0 _ rfl).lt
  refine lv_aload_n hx hb dj_sia_0 rfl (lv_at hl 0 rfl) ?_
  refine W.objInit hx hb hown (hts _ j_w1322) (hts _ j_w40) (hts _ j_w41) rfl (hml.trans hl.1.symm).symm rfl dj_sia_1 (by decide) (Nat.le_of_ble_eq_true rfl) ?_
  show W p l e _ s m _ below meth c s.heap [] 0 0 _ (F0 m 4 ls [])
  refine lv_aload_n hx hb dj_sia_4 rfl (lv_at hl 1 rfl) ?_
  refine jU (C := "java/lang/StringBuilder") (al := []) (rest := []) (k := 0) (ix := 552) (mj_gva l (u0 := s) (H0 := s.heap) hB) hx hb (hml.trans hl.1.symm) hown hts (hts _ j_w1323) j_w1324 j_w28 j_w1327 (hts _ j_w1326) j_w1325 (by decide) (by decide +kernel) rfl g5 g6 g7 (by decide) (by decide) (by decide) (by decide) dj_sia_5 ?_
  rintro v H1 L ⟨rfl, rfl⟩ hL
  refine lv_astore_n (lv' := [(3, .ref d), (0, .ref a), (1, .ref b), (2, .null)]) hx hb dj_sia_8 rfl hl (by decide) rfl (fun ls hl => ?_)
  refine lv_aload_n hx hb dj_sia_9 rfl (lv_at hl 2 rfl) ?_
  refine jX (C := "java/lang/StringBuilder") (x := jy_alen) (al := []) (rest := []) (k := 0) (ix := 549) (mj_blen l (u0 := s) (H0 := s.heap) hB) hx hb (hml.trans hl.1.symm) hown hts (hts _ j_w1328) j_w1332 j_w29 j_w1333 j_w1331 j_w1330 j_w1329 j_w1335 (by decide) (by decide +kernel) rfl g5 g6 g7 (by decide) (by decide) (by decide) (by decide) dj_sia_10 ?_
  rintro v H1 L2 ⟨rfl, rfl⟩ hL2
  refine lv_istore (lv' := [(4, .int (nI n)), (3, .ref d), (0, .ref a), (1, .ref b), (2, .null)]) hx hb dj_sia_13 hl (by decide) rfl (fun ls hl => ?_)
  refine lv_aload_n hx hb dj_sia_15 rfl (lv_at hl 3 rfl) ?_
  refine jU (C := "java/lang/StringBuilder") (al := []) (rest := []) (k := 0) (ix := 1047) (mj_alat l (u0 := s) (H0 := s.heap) hB) hx hb (hml.trans hl.1.symm) hown hts (hts _ j_w1336) j_w1230 j_w28 j_w1233 (hts _ j_w1232) j_w1231 (by decide) (by decide +kernel) rfl g5 g6 g7 (by decide) (by decide) (by decide) (by decide) dj_sia_16 ?_
  rintro v H1 L3 ⟨rfl, rfl⟩ hL3
  have hS : va_S (fun q => q = a ∨ s.heap.size ≤ q) s.heap s.heap ([] ++ L ++ L2 ++ L3) := ⟨Nat.le_refl _, fun _ _ _ => rfl, fun q hq => (List.mem_append.mp hq).elim (fun h => (List.mem_append.mp h).elim (fun h => (hL q h).elim) (fun h => (hL2 q h).elim)) (fun h => (hL3 q h).elim)⟩
  have hD : ∀ (A : Nat → Prop) (fs : List Value), A a → va_D A [(a, .inr (1, fs))] := by
    intro A fs hA
    have key : ∀ (i : Nat) (x : Nat × va_E), ([(a, .inr (1, fs))] : va_W)[i]? = some x → i = 0 ∧ x.1 = a := by
      intro i x hi
      match i, hi with
      | 0, hi => exact ⟨rfl, by rw [← Option.some.inj hi]⟩
      | k + 1, hi => simp at hi
    exact ⟨fun i j x z hi hj _ => (key i x hi).1.trans (key j z hj).1.symm, fun i x hi => by rw [(key i x hi).2]; exact hA⟩
  refine lv_if_eq (tgt := 41) hx hb dj_sia_19 (by decide) (fun q => absurd q (by decide)) (fun _ => ?_)
  refine lv_aload_n hx hb dj_sia_22 rfl (lv_at hl 2 rfl) ?_
  refine lv_iconst (v := 0) hx hb dj_sia_23 (by decide) ?_
  refine va_putF (C := RJ0) (T := TJ0) (N := 4) (ci := 1) hx hb hts j_tw tyJ0 tyJ0_ok nmJ0 hown hK ha (hD _ _ (Or.inl rfl)) hS 0 rfl rfl 1 (by decide) (hts _ j_w1368) (fun _ h => h) rfl hnm rfl (ty := .byte) (v := .int 0) (by decide +kernel) rfl rfl (by decide) dj_sia_24 (fun H2 locs2 hP2 hD2 hS2 => ?_)
  have hP2 : va_P D jcl [(a, .inr (1, [.null, .int 0, .int 0, .int 0]))] H2 := hP2
  have hd2 : H2[d]? = some (arrV cA 16 (fun j => .int (f j))) := by
    have hdl : d < s.heap.size := (Array.getElem?_eq_some_iff.mp hd).1
    rw [hS2.2.1 d hdl (fun h => h.elim (fun h => had h.symm) (fun h => absurd h (Nat.not_le.mpr hdl)))]
    exact hd
  refine lv_aload_n hx hb dj_sia_27 rfl (lv_at hl 2 rfl) ?_
  refine lv_aload_n hx hb dj_sia_28 rfl (lv_at hl 1 rfl) ?_
  refine lv_iconst (v := 0) hx hb dj_sia_29 (by decide) ?_
  refine lv_iload hx hb dj_sia_30 (lv_at hl 0 rfl) ?_
  refine jS (av := [.ref d, .int 0, .int (nI n)]) (rest := [.ref a]) (k := 3) (ix := 54) (mj_cor l (u0 := s) (H0 := H2) hK hd2 hn hf) hx hb (hml.trans hl.1.symm) hown hts (hts _ j_w1337) j_w1338 j_w32 j_w1339 (by decide) (by decide +kernel) rfl (by decide) (by decide) (by decide) (Nat.le_of_ble_eq_true rfl) dj_sia_32 ?_
  rintro v H3 L4 ⟨rfl, ⟨f', hf', h4⟩, h5⟩ hL4
  have hz2 : s.heap.size ≤ H2.size := hS2.1
  have hal2 : a < H2.size := Nat.lt_of_lt_of_le hal' hz2
  have hP3 : va_P D jcl [(a, .inr (1, [.null, .int 0, .int 0, .int 0])), (H2.size, .inl (cA, n, .inl f'))] H3 := by
    intro i x hi
    match i, hi with
    | 0, hi =>
      have h0 := hP2 0 _ rfl
      cases hi
      exact h0.kept (h5.2.1 a hal2 (Nat.not_le.mpr hal2))
    | 1, hi => cases hi; exact h4
    | k + 2, hi => simp at hi
  have hS3 : va_S (fun q => q = a ∨ s.heap.size ≤ q) s.heap H3 (locs2 ++ L4) := by
    refine va_S.locs ?_ hS2.2.2 (fun q hq => Or.inr (Nat.le_trans hz2 (hL4 q hq)))
    exact ⟨Nat.le_trans hS2.1 h5.1, fun q q1 q2 => (h5.2.1 q (Nat.lt_of_lt_of_le q1 hz2) (Nat.not_le.mpr (Nat.lt_of_lt_of_le q1 hz2))).trans (hS2.2.1 q q1 q2), fun q hq => absurd hq List.not_mem_nil⟩
  refine va_putF (C := RJ0) (T := TJ0) (N := 4) (ci := 1) hx hb hts j_tw tyJ0 tyJ0_ok nmJ0 hown hK hP3 (j_D2 (Nat.ne_of_lt hal2) (Or.inl rfl) (Or.inr hz2)) hS3 0 rfl rfl 0 (by decide) (hts _ j_w1367) (fun _ h => h) rfl hnm rfl (ty := .array .byte) (v := .ref H2.size) (by decide +kernel) rfl rfl (by decide) dj_sia_35 (fun H4 locs4 hP4 hD4 hS4 => ?_)
  have hP4 : va_P D jcl [(a, .inr (1, [.ref H2.size, .int 0, .int 0, .int 0])), (H2.size, .inl (cA, n, .inl f'))] H4 := hP4
  refine lv_goto (tgt := 97) hx hb dj_sia_38 (by decide) ?_
  exact jret_v hx hb hr hlk ⟨rfl, H2.size, f', ⟨hz2, Nat.ne_of_lt hal2⟩, hf', hP4, hS4.bare⟩ hS4.2.2 (by decide) (by decide) dj_sia_97
theorem mj_sib (hB : jB D cA b d n f u0 H0) (ha : va_P D jcl [(a, .inr (1, [.null, .int 0, .int 0, .int 0]))] H0) (hab : a ≠ b) (had : a ≠ d) (hn : n < 16) (hf : ∀ j, j < n → fits .byte (.int (f j)) = true) : jM l jy_sib jc_sib 2 jr_sib 4 99 1 16 u0 H0 [.ref a, .ref b] (fun q => q = a ∨ H0.size ≤ q) (fun v H1 => v = none ∧ jMk D cA f n a H0 H1) := by
  refine jM.of (by decide +kernel) (Nat.le_of_ble_eq_true rfl) ?_
  rintro p e s m below meth c ls ⟨hx, hb, hr, hml, hts, hown, hlk, hal, rfl⟩ hl
  have hl : lv_has ls 2 [(0, .ref a), (1, .ref b)] := hl
  refine lv_aload_n hx hb dj_sib_0 rfl (lv_at hl 0 rfl) ?_
  refine lv_aload_n hx hb dj_sib_1 rfl (lv_at hl 1 rfl) ?_
  refine lv_null hx hb dj_sib_2 ?_
  refine jI (al := [.ref b, .null]) (rest := []) (k := 2) (ix := 489) (mj_sia l (u0 := s) (H0 := s.heap) (hB.moved hal) ha hab had hn hf) hx hb (hml.trans hl.1.symm) hown hts rfl (hts _ j_w1319) j_w1320 j_w20 j_w1321 (by decide) (by decide +kernel) rfl (by decide) (by decide) (by decide) (by decide) dj_sib_3 ?_
  rintro v H1 L ⟨rfl, h1⟩ hL
  exact jret_v hx hb hr hlk ⟨rfl, h1⟩ hL (by decide) (by decide) dj_sib_6
theorem mj_bts (hB : jB D cA b d n f u0 H0) (hn : n < 16) (hf : ∀ j, j < n → fits .byte (.int (f j)) = true) : jM l jy_bts jc_bts 1 jr_bts 5 123 2 20 u0 H0 [.ref b] (jNw H0.size) (fun v H1 => ∃ (a x : Nat) (f' : Nat → Int32), v = some (.ref a) ∧ (H0.size ≤ a ∧ H0.size ≤ x ∧ a ≠ x) ∧ (∀ j, j < n → f' j = f j) ∧ va_P D jcl [(a, .inr (1, [.ref x, .int 0, .int 0, .int 0])), (x, .inl (cA, n, .inl f'))] H1 ∧ va_S (jNw H0.size) H0 H1 []) := by
  refine jM.of (by decide +kernel) (Nat.le_of_ble_eq_true rfl) ?_
  rintro p e s m below meth c ls ⟨hx, hb, hr, hml, hts, hown, hlk, hal, rfl⟩ hl
  have hl : lv_has ls 1 [(0, .ref b)] := hl
  have hB := hB.moved hal
  obtain ⟨hK, hPb, hbd, hZ⟩ := id hB
  have hbl : b < s.heap.size := (hPb 0 _ rfl).lt
  have hdl : d < s.heap.size := (hPb 1 _ rfl).lt
  refine va_new (C := RJ0) (T := TJ0) (N := 4) (ci := 1) (ws := []) (A := jNw s.heap.size) (H0 := s.heap) (fs := [.null, .int 0, .int 0, .int 0]) hx hb hts j_tw tyJ0 tyJ0_ok hown (hts _ j_w1315) (hts _ j_w659) (hts _ j_w20) hK (fun i x hi => by simp at hi) ⟨fun i j x z hi => by simp at hi, fun i x hi => by simp at hi⟩ va_S.rf (fun _ h => h) rfl (fun j hj => ?_) (by decide) (by decide) dj_bts_0 (fun a H1 hP hD hS => ?_)
  · match j, hj with
    | 0, _ => rfl
    | 1, _ => rfl
    | 2, _ => rfl
    | 3, _ => rfl
  have hP : va_P D jcl [(a, .inr (1, [.null, .int 0, .int 0, .int 0]))] H1 := hP
  have haz : s.heap.size ≤ a := hD.2 0 (a, .inr (1, [.null, .int 0, .int 0, .int 0])) rfl
  have ha1 : a < H1.size := (hP 0 _ rfl).lt
  have hB1 : jB D cA b d n f s H1 := by
    refine ⟨hK, fun i x hi => ?_, hbd, ?_⟩
    · match i, hi with
      | 0, hi =>
        have h0 := hPb 0 _ rfl
        cases hi
        exact h0.kept (hS.2.1 b hbl (Nat.not_le.mpr hbl))
      | 1, hi =>
        have h0 := hPb 1 _ rfl
        cases hi
        exact h0.kept (hS.2.1 d hdl (Nat.not_le.mpr hdl))
      | k + 2, hi => simp at hi
    · exact hZ.kept fun q q1 _ => hS.2.1 q q1 (Nat.not_le.mpr q1)
  refine lv_dup hx hb dj_bts_3 rfl ?_
  refine lv_aload_n hx hb dj_bts_4 rfl (lv_at hl 0 rfl) ?_
  refine jI (al := [.ref b]) (rest := [.ref a]) (k := 1) (ix := 137) (mj_sib l (u0 := s) (H0 := H1) hB1 hP (by omega) (by omega) hn hf) hx hb (hml.trans hl.1.symm) hown hts rfl (hts _ j_w1316) j_w1317 j_w20 j_w1318 (by decide) (by decide +kernel) rfl (by decide) (by decide) (by decide) (Nat.le_of_ble_eq_true rfl) dj_bts_5 ?_
  rintro v H2 L ⟨rfl, x, f', ⟨h1, h1'⟩, h2, h3, h4⟩ hL
  have hz := hS.1
  refine jret_a hx hb hr (Or.inl ⟨_, rfl⟩) hlk ⟨a, x, f', rfl, ⟨haz, Nat.le_trans hz h1, h1'⟩, h2, h3, ⟨Nat.le_trans hz h4.1, fun q q1 q2 => ?_, fun q hq => absurd hq List.not_mem_nil⟩⟩ (fun q hq => ?_) (by decide) (by decide) dj_bts_8
  · have q3 : q < s.heap.size := q1
    rw [h4.2.1 q (Nat.lt_of_lt_of_le q1 hz) (fun h => h.elim (fun h => by omega) (fun h => by omega))]
    exact hS.2.1 q q1 q2
  · rcases hL q hq with h | h
    · show s.heap.size ≤ q.base
      rw [h]; exact haz
    · exact Nat.le_trans hz h
end JTS
