/-! THE JDK's OWN METHODS: an int of one digit or of two behind a StringBuilder's letters -/
abbrev jy_siz : MethodName := ⟨"java/lang/Integer", "stringSize", "(I)I"⟩
abbrev jc_siz : ByteArray := prog_26_method_13_code
abbrev jr_siz : Option FieldType := (Option.some Jvm.ClassFile.FieldType.int)
abbrev jy_gch : MethodName := ⟨"java/lang/Integer", "getChars", "(II[B)I"⟩
abbrev jc_gch : ByteArray := prog_26_method_12_code
abbrev jr_gch : Option FieldType := (Option.some Jvm.ClassFile.FieldType.int)
abbrev jy_aai : MethodName := ⟨"java/lang/AbstractStringBuilder", "append", "(I)Ljava/lang/AbstractStringBuilder;"⟩
abbrev jc_aai : ByteArray := prog_13_method_32_code
abbrev jr_aai : Option FieldType := (Option.some (Jvm.ClassFile.FieldType.object "java/lang/AbstractStringBuilder"))
abbrev jy_bai : MethodName := ⟨"java/lang/StringBuilder", "append", "(I)Ljava/lang/StringBuilder;"⟩
abbrev jc_bai : ByteArray := prog_31_method_15_code
abbrev jr_bai : Option FieldType := (Option.some (Jvm.ClassFile.FieldType.object "java/lang/StringBuilder"))
theorem j_w1297 : Jvm.Cond.fieldLink "java/lang/Integer" (83 : Nat) "java/lang/Integer" "DigitOnes" "[B" ∈ j_W := j_at_in (i := 1306) (by decide +kernel)
theorem j_w1299 : Jvm.Cond.fieldLink "java/lang/Integer" (87 : Nat) "java/lang/Integer" "DigitTens" "[B" ∈ j_W := j_at_in (i := 1308) (by decide +kernel)
theorem j_w1291 : Jvm.Cond.methodLink "java/lang/AbstractStringBuilder" (245 : Nat) ({ cls := "java/lang/Integer", name := "stringSize", desc := "(I)I" } : Jvm.MethodName) ∈ j_W := j_at_in (i := 1300) (by decide +kernel)
theorem j_w1292 : Jvm.Cond.static ({ cls := "java/lang/Integer", name := "stringSize", desc := "(I)I" } : Jvm.MethodName) ∈ j_W := j_at_in (i := 1301) (by decide +kernel)
theorem j_w33 : Jvm.Cond.initialized "java/lang/Integer" ∈ j_W := j_at_in (i := 42) (by decide +kernel)
theorem j_w1293 : Jvm.Cond.code ({ cls := "java/lang/Integer", name := "stringSize", desc := "(I)I" } : Jvm.MethodName) prog_26_method_13_code (4 : Nat) (Option.some Jvm.ClassFile.FieldType.int) ∈ j_W := j_at_in (i := 1302) (by decide +kernel)
theorem j_w1229 : Jvm.Cond.methodLink "java/lang/AbstractStringBuilder" (83 : Nat) ({ cls := "java/lang/AbstractStringBuilder", name := "isLatin1", desc := "()Z" } : Jvm.MethodName) ∈ j_W := j_at_in (i := 1238) (by decide +kernel)
theorem j_w1230 : Jvm.Cond.instanceMethod ({ cls := "java/lang/AbstractStringBuilder", name := "isLatin1", desc := "()Z" } : Jvm.MethodName) ∈ j_W := j_at_in (i := 1239) (by decide +kernel)
theorem j_w1233 : Jvm.Cond.code ({ cls := "java/lang/AbstractStringBuilder", name := "isLatin1", desc := "()Z" } : Jvm.MethodName) prog_13_method_68_code (1 : Nat) (Option.some Jvm.ClassFile.FieldType.boolean) ∈ j_W := j_at_in (i := 1242) (by decide +kernel)
theorem j_w1232 : Jvm.Cond.selects "java/lang/StringBuilder" ({ cls := "java/lang/AbstractStringBuilder", name := "isLatin1", desc := "()Z" } : Jvm.MethodName) ({ cls := "java/lang/AbstractStringBuilder", name := "isLatin1", desc := "()Z" } : Jvm.MethodName) ∈ j_W := j_at_in (i := 1241) (by decide +kernel)
theorem j_w1231 : Jvm.Cond.sameMethod "java/lang/AbstractStringBuilder" "java/lang/AbstractStringBuilder" "isLatin1" "()Z" ∈ j_W := j_at_in (i := 1240) (by decide +kernel)
theorem j_w1294 : Jvm.Cond.methodLink "java/lang/AbstractStringBuilder" (248 : Nat) ({ cls := "java/lang/Integer", name := "getChars", desc := "(II[B)I" } : Jvm.MethodName) ∈ j_W := j_at_in (i := 1303) (by decide +kernel)
theorem j_w1295 : Jvm.Cond.static ({ cls := "java/lang/Integer", name := "getChars", desc := "(II[B)I" } : Jvm.MethodName) ∈ j_W := j_at_in (i := 1304) (by decide +kernel)
theorem j_w1296 : Jvm.Cond.code ({ cls := "java/lang/Integer", name := "getChars", desc := "(II[B)I" } : Jvm.MethodName) prog_26_method_12_code (7 : Nat) (Option.some Jvm.ClassFile.FieldType.int) ∈ j_W := j_at_in (i := 1305) (by decide +kernel)
theorem j_w1288 : Jvm.Cond.methodLink "java/lang/StringBuilder" (53 : Nat) ({ cls := "java/lang/AbstractStringBuilder", name := "append", desc := "(I)Ljava/lang/AbstractStringBuilder;" } : Jvm.MethodName) ∈ j_W := j_at_in (i := 1297) (by decide +kernel)
theorem j_w1289 : Jvm.Cond.instanceMethod ({ cls := "java/lang/AbstractStringBuilder", name := "append", desc := "(I)Ljava/lang/AbstractStringBuilder;" } : Jvm.MethodName) ∈ j_W := j_at_in (i := 1298) (by decide +kernel)
theorem j_w1290 : Jvm.Cond.code ({ cls := "java/lang/AbstractStringBuilder", name := "append", desc := "(I)Ljava/lang/AbstractStringBuilder;" } : Jvm.MethodName) prog_13_method_32_code (4 : Nat) (Option.some (Jvm.ClassFile.FieldType.object "java/lang/AbstractStringBuilder")) ∈ j_W := j_at_in (i := 1299) (by decide +kernel)
theorem j_w1398 : Jvm.Cond.sameMethod "java/lang/AbstractStringBuilder" "java/lang/AbstractStringBuilder" "append" "(I)Ljava/lang/AbstractStringBuilder;" ∈ j_W := j_at_in (i := 1407) (by decide +kernel)
theorem dj_siz_0 : decode jc_siz 0 = .ok (.iconst 1, 1) := by decide +kernel
theorem dj_siz_1 : decode jc_siz 1 = .ok (.istore_n 1, 1) := by decide +kernel
theorem dj_siz_2 : decode jc_siz 2 = .ok (.iload_n 0, 1) := by decide +kernel
theorem dj_siz_3 : decode jc_siz 3 = .ok (.ifCond .lt 8, 3) := by decide +kernel
theorem dj_siz_6 : decode jc_siz 6 = .ok (.iconst 0, 1) := by decide +kernel
theorem dj_siz_7 : decode jc_siz 7 = .ok (.istore_n 1, 1) := by decide +kernel
theorem dj_siz_8 : decode jc_siz 8 = .ok (.iload_n 0, 1) := by decide +kernel
theorem dj_siz_9 : decode jc_siz 9 = .ok (.ineg, 1) := by decide +kernel
theorem dj_siz_10 : decode jc_siz 10 = .ok (.istore_n 0, 1) := by decide +kernel
theorem dj_siz_11 : decode jc_siz 11 = .ok (.bipush (-10), 2) := by decide +kernel
theorem dj_siz_13 : decode jc_siz 13 = .ok (.istore_n 2, 1) := by decide +kernel
theorem dj_siz_14 : decode jc_siz 14 = .ok (.iconst 1, 1) := by decide +kernel
theorem dj_siz_15 : decode jc_siz 15 = .ok (.istore_n 3, 1) := by decide +kernel
theorem dj_siz_16 : decode jc_siz 16 = .ok (.iload_n 3, 1) := by decide +kernel
theorem dj_siz_17 : decode jc_siz 17 = .ok (.bipush 10, 2) := by decide +kernel
theorem dj_siz_19 : decode jc_siz 19 = .ok (.if_icmp .ge 23, 3) := by decide +kernel
theorem dj_siz_22 : decode jc_siz 22 = .ok (.iload_n 0, 1) := by decide +kernel
theorem dj_siz_23 : decode jc_siz 23 = .ok (.iload_n 2, 1) := by decide +kernel
theorem dj_siz_24 : decode jc_siz 24 = .ok (.if_icmp .le 7, 3) := by decide +kernel
theorem dj_siz_31 : decode jc_siz 31 = .ok (.bipush 10, 2) := by decide +kernel
theorem dj_siz_33 : decode jc_siz 33 = .ok (.iload_n 2, 1) := by decide +kernel
theorem dj_siz_34 : decode jc_siz 34 = .ok (.imul, 1) := by decide +kernel
theorem dj_siz_35 : decode jc_siz 35 = .ok (.istore_n 2, 1) := by decide +kernel
theorem dj_siz_36 : decode jc_siz 36 = .ok (.iinc 3 1, 3) := by decide +kernel
theorem dj_siz_39 : decode jc_siz 39 = .ok (.goto (-23), 3) := by decide +kernel
theorem dj_siz_27 : decode jc_siz 27 = .ok (.iload_n 3, 1) := by decide +kernel
theorem dj_siz_28 : decode jc_siz 28 = .ok (.iload_n 1, 1) := by decide +kernel
theorem dj_siz_29 : decode jc_siz 29 = .ok (.iadd, 1) := by decide +kernel
theorem dj_siz_30 : decode jc_siz 30 = .ok (.ireturn, 1) := by decide +kernel
theorem dj_gch_0 : decode jc_gch 0 = .ok (.iload_n 1, 1) := by decide +kernel
theorem dj_gch_1 : decode jc_gch 1 = .ok (.istore 5, 2) := by decide +kernel
theorem dj_gch_3 : decode jc_gch 3 = .ok (.iload_n 0, 1) := by decide +kernel
theorem dj_gch_4 : decode jc_gch 4 = .ok (.ifCond .ge 7, 3) := by decide +kernel
theorem dj_gch_11 : decode jc_gch 11 = .ok (.iconst 0, 1) := by decide +kernel
theorem dj_gch_12 : decode jc_gch 12 = .ok (.istore 6, 2) := by decide +kernel
theorem dj_gch_14 : decode jc_gch 14 = .ok (.iload 6, 2) := by decide +kernel
theorem dj_gch_16 : decode jc_gch 16 = .ok (.ifCond .ne 6, 3) := by decide +kernel
theorem dj_gch_19 : decode jc_gch 19 = .ok (.iload_n 0, 1) := by decide +kernel
theorem dj_gch_20 : decode jc_gch 20 = .ok (.ineg, 1) := by decide +kernel
theorem dj_gch_21 : decode jc_gch 21 = .ok (.istore_n 0, 1) := by decide +kernel
theorem dj_gch_22 : decode jc_gch 22 = .ok (.iload_n 0, 1) := by decide +kernel
theorem dj_gch_23 : decode jc_gch 23 = .ok (.bipush (-100), 2) := by decide +kernel
theorem dj_gch_25 : decode jc_gch 25 = .ok (.if_icmp .gt 47, 3) := by decide +kernel
theorem dj_gch_72 : decode jc_gch 72 = .ok (.aload_n 2, 1) := by decide +kernel
theorem dj_gch_73 : decode jc_gch 73 = .ok (.iinc 5 (-1), 3) := by decide +kernel
theorem dj_gch_76 : decode jc_gch 76 = .ok (.iload 5, 2) := by decide +kernel
theorem dj_gch_78 : decode jc_gch 78 = .ok (.getstatic 83, 3) := by decide +kernel
theorem dj_gch_81 : decode jc_gch 81 = .ok (.iload_n 0, 1) := by decide +kernel
theorem dj_gch_82 : decode jc_gch 82 = .ok (.ineg, 1) := by decide +kernel
theorem dj_gch_83 : decode jc_gch 83 = .ok (.baload, 1) := by decide +kernel
theorem dj_gch_84 : decode jc_gch 84 = .ok (.bastore, 1) := by decide +kernel
theorem dj_gch_85 : decode jc_gch 85 = .ok (.iload_n 0, 1) := by decide +kernel
theorem dj_gch_86 : decode jc_gch 86 = .ok (.bipush (-9), 2) := by decide +kernel
theorem dj_gch_88 : decode jc_gch 88 = .ok (.if_icmp .ge 16, 3) := by decide +kernel
theorem dj_gch_104 : decode jc_gch 104 = .ok (.iload 6, 2) := by decide +kernel
theorem dj_gch_106 : decode jc_gch 106 = .ok (.ifCond .eq 12, 3) := by decide +kernel
theorem dj_gch_118 : decode jc_gch 118 = .ok (.iload 5, 2) := by decide +kernel
theorem dj_gch_120 : decode jc_gch 120 = .ok (.ireturn, 1) := by decide +kernel
theorem dj_gch_91 : decode jc_gch 91 = .ok (.aload_n 2, 1) := by decide +kernel
theorem dj_gch_92 : decode jc_gch 92 = .ok (.iinc 5 (-1), 3) := by decide +kernel
theorem dj_gch_95 : decode jc_gch 95 = .ok (.iload 5, 2) := by decide +kernel
theorem dj_gch_97 : decode jc_gch 97 = .ok (.getstatic 87, 3) := by decide +kernel
theorem dj_gch_100 : decode jc_gch 100 = .ok (.iload_n 0, 1) := by decide +kernel
theorem dj_gch_101 : decode jc_gch 101 = .ok (.ineg, 1) := by decide +kernel
theorem dj_gch_102 : decode jc_gch 102 = .ok (.baload, 1) := by decide +kernel
theorem dj_gch_103 : decode jc_gch 103 = .ok (.bastore, 1) := by decide +kernel
theorem dj_aai_0 : decode jc_aai 0 = .ok (.aload_n 0, 1) := by decide +kernel
theorem dj_aai_1 : decode jc_aai 1 = .ok (.getfield 79, 3) := by decide +kernel
theorem dj_aai_4 : decode jc_aai 4 = .ok (.istore_n 2, 1) := by decide +kernel
theorem dj_aai_5 : decode jc_aai 5 = .ok (.iload_n 2, 1) := by decide +kernel
theorem dj_aai_6 : decode jc_aai 6 = .ok (.iload_n 1, 1) := by decide +kernel
theorem dj_aai_7 : decode jc_aai 7 = .ok (.invokestatic 245, 3) := by decide +kernel
theorem dj_aai_10 : decode jc_aai 10 = .ok (.iadd, 1) := by decide +kernel
theorem dj_aai_11 : decode jc_aai 11 = .ok (.istore_n 3, 1) := by decide +kernel
theorem dj_aai_12 : decode jc_aai 12 = .ok (.aload_n 0, 1) := by decide +kernel
theorem dj_aai_13 : decode jc_aai 13 = .ok (.iload_n 3, 1) := by decide +kernel
theorem dj_aai_14 : decode jc_aai 14 = .ok (.invokevirtual 100, 3) := by decide +kernel
theorem dj_aai_17 : decode jc_aai 17 = .ok (.aload_n 0, 1) := by decide +kernel
theorem dj_aai_18 : decode jc_aai 18 = .ok (.invokevirtual 83, 3) := by decide +kernel
theorem dj_aai_21 : decode jc_aai 21 = .ok (.ifCond .eq 16, 3) := by decide +kernel
theorem dj_aai_24 : decode jc_aai 24 = .ok (.iload_n 1, 1) := by decide +kernel
theorem dj_aai_25 : decode jc_aai 25 = .ok (.iload_n 3, 1) := by decide +kernel
theorem dj_aai_26 : decode jc_aai 26 = .ok (.aload_n 0, 1) := by decide +kernel
theorem dj_aai_27 : decode jc_aai 27 = .ok (.getfield 15, 3) := by decide +kernel
theorem dj_aai_30 : decode jc_aai 30 = .ok (.invokestatic 248, 3) := by decide +kernel
theorem dj_aai_33 : decode jc_aai 33 = .ok (.pop, 1) := by decide +kernel
theorem dj_aai_34 : decode jc_aai 34 = .ok (.goto 14, 3) := by decide +kernel
theorem dj_aai_48 : decode jc_aai 48 = .ok (.aload_n 0, 1) := by decide +kernel
theorem dj_aai_49 : decode jc_aai 49 = .ok (.iload_n 3, 1) := by decide +kernel
theorem dj_aai_50 : decode jc_aai 50 = .ok (.putfield 79, 3) := by decide +kernel
theorem dj_aai_53 : decode jc_aai 53 = .ok (.aload_n 0, 1) := by decide +kernel
theorem dj_aai_54 : decode jc_aai 54 = .ok (.areturn, 1) := by decide +kernel
theorem dj_bai_0 : decode jc_bai 0 = .ok (.aload_n 0, 1) := by decide +kernel
theorem dj_bai_1 : decode jc_bai 1 = .ok (.iload_n 1, 1) := by decide +kernel
theorem dj_bai_2 : decode jc_bai 2 = .ok (.invokespecial 53, 3) := by decide +kernel
theorem dj_bai_5 : decode jc_bai 5 = .ok (.pop, 1) := by decide +kernel
theorem dj_bai_6 : decode jc_bai 6 = .ok (.aload_n 0, 1) := by decide +kernel
theorem dj_bai_7 : decode jc_bai 7 = .ok (.areturn, 1) := by decide +kernel
theorem j_nn : ∀ v, v < 100 → (v < 10 → ¬ (-(nI v) ≤ -10) ∧ -9 ≤ -(nI v)) ∧ (10 ≤ v → -(nI v) ≤ -10 ∧ ¬ (-(nI v) ≤ -100) ∧ ¬ (-9 ≤ -(nI v))) ∧ -100 < -(nI v) := by decide +kernel
theorem j_dec (n : Nat) : nI (n + 1) + Int32.ofInt (-1) = nI n := by
  rw [show Int32.ofInt (-1) = -1 by decide]
  exact sb_m1 (Nat.succ_pos n)
theorem j_narb : ∀ k, k < 128 → vp_nar .byte (nI k) = nI k := by decide +kernel
abbrev jdg (v : Nat) : Nat := if v < 10 then 1 else 2
abbrev jdf (f : Nat → Int32) (n v : Nat) : Nat → Int32 := if v < 10 then upd f n (nI (48 + v)) else upd (upd f (n + 1) (nI (48 + v % 10))) n (nI (48 + v / 10))
/-- Integer's two tables -/
abbrev jTb (q1 q2 : Nat) (A : Nat → Prop) (U : State) (H : Heap) : Prop := (va_Z "java/lang/Integer" "DigitOnes" "[B" (.ref q1) A U H ∧ va_T .byte q1 100 (fun j => .int (nI (48 + j % 10))) A U H) ∧ va_Z "java/lang/Integer" "DigitTens" "[B" (.ref q2) A U H ∧ va_T .byte q2 100 (fun j => .int (nI (48 + j / 10))) A U H
theorem jTb.moved {q1 q2 : Nat} {A : Nat → Prop} {u U : State} {H : Heap} (hvm : u.vm.Alike U.vm) (h : jTb q1 q2 A u H) : jTb q1 q2 A U H := ⟨⟨va_Z.moved hvm h.1.1, va_T.moved hvm h.1.2⟩, va_Z.moved hvm h.2.1, va_T.moved hvm h.2.2⟩
theorem jTb.kept {q1 q2 : Nat} {A : Nat → Prop} {U : State} {H H1 : Heap} (h : jTb q1 q2 A U H) (hq : ∀ q : Nat, q < H.size → ¬ A q → H1[q]? = H[q]?) : jTb q1 q2 A U H1 := ⟨⟨h.1.1.kept hq, h.1.2.kept hq⟩, h.2.1.kept hq, h.2.2.kept hq⟩
section JT0
variable {p : Program} {l : Launch} {e : Env} {R : Room} {s : State} {m : MethodId} {args : Array Value} {below : List Frame} {meth : Method} {c : Code} {H : Heap} {locs : List Loc} {cells slots : Nat} {Q : State → Prop} {pc : Nat} {ls : Array Slot} {cc : ByteArray} {A : Nat → Prop} {rest : List Value}
theorem j_tld {q N i : Nat} {f : Nat → Int32} (hx : p.tables.exec = Jvm.exec) (hb : c.code = cc) (hT : va_T .byte q N (fun j => .int (f j)) A s s.heap) (hS : va_S A s.heap H locs) (hi : i < N) (hN : N < 2147483648) (hdg : decode cc pc = .ok (.baload, 1))
    (kk : W p l e R s m args below meth c H locs cells slots Q (F0 m (pc + 1) ls (.int (f i) :: rest))) : W p l e R s m args below meth c H locs cells slots Q (F0 m pc ls (.int (nI i) :: .ref q :: rest)) := by
  obtain ⟨cell, g1, g2, g3, g4, g5, g6, -⟩ := hT.kept hS.2.1
  have e1 : (nI i).toNatClampNeg = i := nI_clamp (by omega)
  refine W.bald (v := .int (f i)) hx hb g1 g2 g3 (fun h => ?_) (by rw [e1]; exact g6 i hi) rfl rfl hdg kk
  rcases h with h | h
  · exact nI_pos (by omega) h
  · rw [e1] at h; omega
end JT0
section JI1
variable (l : Launch) {u0 : State} {H0 : Heap} {D : va_G} {cA : ClassId} {b d n q1 q2 v : Nat} {f : Nat → Int32}
theorem mj_siz (hv : v < 100) : jM l jy_siz jc_siz 4 jr_siz 0 0 0 0 u0 H0 [.int (nI v)] jNo (fun r H => r = some (.int (nI (jdg v))) ∧ H = H0) := by
  refine jM.of (by decide +kernel) (Nat.le_of_ble_eq_true rfl) ?_
  rintro p e s m below meth c ls ⟨hx, hb, hr, hml, hts, hown, hlk, hal, rfl⟩ hl
  have hl : lv_has ls 4 [(0, .int (nI v))] := hl
  obtain ⟨n1, n2, n3⟩ := j_nn v hv
  refine lv_iconst (v := 1) hx hb dj_siz_0 (by decide) ?_
  refine lv_istore_n (lv' := [(1, .int 1), (0, .int (nI v))]) hx hb dj_siz_1 rfl hl (by decide) rfl (fun ls hl => ?_)
  refine lv_iload_n hx hb dj_siz_2 rfl (lv_at hl 1 rfl) ?_
  refine lv_if_lt (tgt := 11) hx hb dj_siz_3 (by decide) (fun q => absurd q (nI_pos (by omega))) (fun _ => ?_)
  refine lv_iconst (v := 0) hx hb dj_siz_6 (by decide) ?_
  refine lv_istore_n (lv' := [(1, .int 0), (0, .int (nI v))]) hx hb dj_siz_7 rfl hl (by decide) rfl (fun ls hl => ?_)
  refine lv_iload_n hx hb dj_siz_8 rfl (lv_at hl 1 rfl) ?_
  refine lv_ineg hx hb dj_siz_9 ?_
  refine lv_istore_n (lv' := [(0, .int (-(nI v))), (1, .int 0)]) hx hb dj_siz_10 rfl hl (by decide) rfl (fun ls hl => ?_)
  refine lv_bipush (v := -10) hx hb dj_siz_11 (by decide) ?_
  refine lv_istore_n (lv' := [(2, .int (-10)), (0, .int (-(nI v))), (1, .int 0)]) hx hb dj_siz_13 rfl hl (by decide) rfl (fun ls hl => ?_)
  refine lv_iconst (v := 1) hx hb dj_siz_14 (by decide) ?_
  refine lv_istore_n (lv' := [(3, .int 1), (2, .int (-10)), (0, .int (-(nI v))), (1, .int 0)]) hx hb dj_siz_15 rfl hl (by decide) rfl (fun ls hl => ?_)
  refine lv_iload_n hx hb dj_siz_16 rfl (lv_at hl 0 rfl) ?_
  refine lv_bipush (v := 10) hx hb dj_siz_17 (by decide) ?_
  refine lv_icmp_ge (tgt := 42) hx hb dj_siz_19 (by decide) (fun q => absurd q (by decide)) (fun _ => ?_)
  refine lv_iload_n hx hb dj_siz_22 rfl (lv_at hl 2 rfl) ?_
  refine lv_iload_n hx hb dj_siz_23 rfl (lv_at hl 1 rfl) ?_
  refine lv_icmp_le (tgt := 31) hx hb dj_siz_24 (by decide) (fun q => ?_) (fun q => ?_)
  · have h10 : ¬ v < 10 := fun h => (n1 h).1 q
    refine lv_bipush (v := 10) hx hb dj_siz_31 (by decide) ?_
    refine lv_iload_n hx hb dj_siz_33 rfl (lv_at hl 1 rfl) ?_
    refine lv_imul hx hb dj_siz_34 ?_
    rw [show (10 : Int32) * (-10) = -100 by decide]
    refine lv_istore_n (lv' := [(2, .int (-100)), (3, .int 1), (0, .int (-(nI v))), (1, .int 0)]) hx hb dj_siz_35 rfl hl (by decide) rfl (fun ls hl => ?_)
    refine lv_iinc (lv' := [(3, .int 2), (2, .int (-100)), (0, .int (-(nI v))), (1, .int 0)]) (v := 2) hx hb dj_siz_36 hl (k := 1) rfl (by decide) (by decide) rfl (fun ls hl => ?_)
    refine lv_goto (tgt := 16) hx hb dj_siz_39 (by decide) ?_
    refine lv_iload_n hx hb dj_siz_16 rfl (lv_at hl 0 rfl) ?_
    refine lv_bipush (v := 10) hx hb dj_siz_17 (by decide) ?_
    refine lv_icmp_ge (tgt := 42) hx hb dj_siz_19 (by decide) (fun q => absurd q (by decide)) (fun _ => ?_)
    refine lv_iload_n hx hb dj_siz_22 rfl (lv_at hl 2 rfl) ?_
    refine lv_iload_n hx hb dj_siz_23 rfl (lv_at hl 1 rfl) ?_
    refine lv_icmp_le (tgt := 31) hx hb dj_siz_24 (by decide) (fun q => absurd q (n2 (by omega)).2.1) (fun _ => ?_)
    refine lv_iload_n hx hb dj_siz_27 rfl (lv_at hl 0 rfl) ?_
    refine lv_iload_n hx hb dj_siz_28 rfl (lv_at hl 3 rfl) ?_
    refine lv_iadd hx hb dj_siz_29 ?_
    rw [show (2 : Int32) + 0 = nI 2 by decide]
    exact jret_i hx hb hr rfl hlk ⟨by rw [show jdg v = 2 from if_neg h10], rfl⟩ j_nil (Nat.le_refl _) (Nat.le_refl _) dj_siz_30
  · have h10 : v < 10 := Nat.lt_of_not_le fun h => q (n2 h).1
    refine lv_iload_n hx hb dj_siz_27 rfl (lv_at hl 0 rfl) ?_
    refine lv_iload_n hx hb dj_siz_28 rfl (lv_at hl 3 rfl) ?_
    refine lv_iadd hx hb dj_siz_29 ?_
    rw [show (1 : Int32) + 0 = nI 1 by decide]
    exact jret_i hx hb hr rfl hlk ⟨by rw [show jdg v = 1 from if_pos h10], rfl⟩ j_nil (Nat.le_refl _) (Nat.le_refl _) dj_siz_30
theorem mj_gch (hB : jB D cA b d n f u0 H0) (hT : jTb q1 q2 (jA b d) u0 H0) (hv : v < 100) (hn : n + jdg v ≤ 16) : jM l jy_gch jc_gch 7 jr_gch 0 0 0 0 u0 H0 [.int (nI v), .int (nI (n + jdg v)), .ref d] (jA b d) (fun r H1 => r = some (.int (nI n)) ∧ va_P D jcl (jw b d cA (jdf f n v) n) H1 ∧ va_S (jA b d) H0 H1 []) := by
  refine jM.of (by decide +kernel) (Nat.le_of_ble_eq_true rfl) ?_
  rintro p e s m below meth c ls ⟨hx, hb, hr, hml, hts, hown, hlk, hal, rfl⟩ hl
  obtain ⟨hK, hP, hbd, hZ⟩ := hB.moved hal
  obtain ⟨⟨t1, t2⟩, t3, t4⟩ := hT.moved hal
  obtain ⟨n1, n2, n3⟩ := j_nn v hv
  have hS : va_S (jA b d) s.heap s.heap [] := va_S.rf
  have hD := j_D (n := n) (cA := cA) (f := f) hbd
  have hl : lv_has ls 7 [(0, .int (nI v)), (1, .int (nI (n + jdg v))), (2, .ref d)] := hl
  have enn : -(-(nI v)) = nI v := Int32.neg_neg
  refine lv_iload_n hx hb dj_gch_0 rfl (lv_at hl 1 rfl) ?_
  refine lv_istore (lv' := [(5, .int (nI (n + jdg v))), (0, .int (nI v)), (1, .int (nI (n + jdg v))), (2, .ref d)]) hx hb dj_gch_1 hl (by decide) rfl (fun ls hl => ?_)
  refine lv_iload_n hx hb dj_gch_3 rfl (lv_at hl 1 rfl) ?_
  refine lv_if_ge (tgt := 11) hx hb dj_gch_4 (by decide) (fun _ => ?_) (fun q => absurd (nI_pos' (by omega)) q)
  refine lv_iconst (v := 0) hx hb dj_gch_11 (by decide) ?_
  refine lv_istore (lv' := [(6, .int 0), (5, .int (nI (n + jdg v))), (0, .int (nI v)), (1, .int (nI (n + jdg v))), (2, .ref d)]) hx hb dj_gch_12 hl (by decide) rfl (fun ls hl => ?_)
  refine lv_iload hx hb dj_gch_14 (lv_at hl 0 rfl) ?_
  refine lv_if_ne (tgt := 22) hx hb dj_gch_16 (by decide) (fun q => absurd rfl q) (fun _ => ?_)
  refine lv_iload_n hx hb dj_gch_19 rfl (lv_at hl 2 rfl) ?_
  refine lv_ineg hx hb dj_gch_20 ?_
  refine lv_istore_n (lv' := [(0, .int (-(nI v))), (6, .int 0), (5, .int (nI (n + jdg v))), (1, .int (nI (n + jdg v))), (2, .ref d)]) hx hb dj_gch_21 rfl hl (by decide) rfl (fun ls hl => ?_)
  refine lv_iload_n hx hb dj_gch_22 rfl (lv_at hl 0 rfl) ?_
  refine lv_bipush (v := -100) hx hb dj_gch_23 (by decide) ?_
  refine lv_icmp_gt (tgt := 72) hx hb dj_gch_25 (by decide) (fun _ => ?_) (fun q => absurd n3 q)
  refine lv_aload_n hx hb dj_gch_72 rfl (lv_at hl 4 rfl) ?_
  by_cases h10 : v < 10
  · have e1 : jdg v = 1 := if_pos h10
    rw [e1] at hl hn
    refine lv_iinc (lv' := [(5, .int (nI n)), (0, .int (-(nI v))), (6, .int 0), (1, .int (nI (n + 1))), (2, .ref d)]) (v := nI n) hx hb dj_gch_73 hl (k := 2) rfl (j_dec n) (by decide) rfl (fun ls hl => ?_)
    refine lv_iload hx hb dj_gch_76 (lv_at hl 0 rfl) ?_
    refine va_gets hx hb t1 hS hown (hts _ j_w1297) (fun _ h => h) dj_gch_78 ?_
    refine lv_iload_n hx hb dj_gch_81 rfl (lv_at hl 1 rfl) ?_
    refine lv_ineg hx hb dj_gch_82 ?_
    rw [enn]
    refine j_tld hx hb t2 hS hv (by decide) dj_gch_83 ?_
    refine va_bast hx hb hK hP hD hS 1 0 rfl rfl (vp_in_nI (by omega) (by omega)) dj_gch_84 (fun H1 locs1 hP hD hS => ?_)
    rw [nI_clamp (by omega), j_narb _ (by omega)] at hP hD
    refine lv_iload_n hx hb dj_gch_85 rfl (lv_at hl 1 rfl) ?_
    refine lv_bipush (v := -9) hx hb dj_gch_86 (by decide) ?_
    refine lv_icmp_ge (tgt := 104) hx hb dj_gch_88 (by decide) (fun _ => ?_) (fun q => absurd (n1 h10).2 q)
    refine lv_iload hx hb dj_gch_104 (lv_at hl 2 rfl) ?_
    refine lv_if_eq (tgt := 118) hx hb dj_gch_106 (by decide) (fun _ => ?_) (fun q => absurd rfl q)
    refine lv_iload hx hb dj_gch_118 (lv_at hl 0 rfl) ?_
    have ef : jdf f n v = upd f n (nI (48 + v % 10)) := by rw [Nat.mod_eq_of_lt h10]; exact if_pos h10
    exact jret_i hx hb hr rfl hlk ⟨rfl, by rw [ef]; exact hP, hS.bare⟩ hS.2.2 (Nat.le_refl _) (Nat.le_refl _) dj_gch_120
  · have e1 : jdg v = 2 := if_neg h10
    rw [e1] at hl hn
    refine lv_iinc (lv' := [(5, .int (nI (n + 1))), (0, .int (-(nI v))), (6, .int 0), (1, .int (nI (n + 2))), (2, .ref d)]) (v := nI (n + 1)) hx hb dj_gch_73 hl (k := 2) rfl (j_dec (n + 1)) (by decide) rfl (fun ls hl => ?_)
    refine lv_iload hx hb dj_gch_76 (lv_at hl 0 rfl) ?_
    refine va_gets hx hb t1 hS hown (hts _ j_w1297) (fun _ h => h) dj_gch_78 ?_
    refine lv_iload_n hx hb dj_gch_81 rfl (lv_at hl 1 rfl) ?_
    refine lv_ineg hx hb dj_gch_82 ?_
    rw [enn]
    refine j_tld hx hb t2 hS hv (by decide) dj_gch_83 ?_
    refine va_bast hx hb hK hP hD hS 1 0 rfl rfl (vp_in_nI (by omega) (by omega)) dj_gch_84 (fun H1 locs1 hP hD hS => ?_)
    rw [nI_clamp (by omega), j_narb _ (by omega)] at hP hD
    refine lv_iload_n hx hb dj_gch_85 rfl (lv_at hl 1 rfl) ?_
    refine lv_bipush (v := -9) hx hb dj_gch_86 (by decide) ?_
    refine lv_icmp_ge (tgt := 104) hx hb dj_gch_88 (by decide) (fun q => absurd q (n2 (by omega)).2.2) (fun _ => ?_)
    refine lv_aload_n hx hb dj_gch_91 rfl (lv_at hl 4 rfl) ?_
    refine lv_iinc (lv' := [(5, .int (nI n)), (0, .int (-(nI v))), (6, .int 0), (1, .int (nI (n + 2))), (2, .ref d)]) (v := nI n) hx hb dj_gch_92 hl (k := 0) rfl (j_dec n) (by decide) rfl (fun ls hl => ?_)
    refine lv_iload hx hb dj_gch_95 (lv_at hl 0 rfl) ?_
    refine va_gets hx hb t3 hS hown (hts _ j_w1299) (fun _ h => h) dj_gch_97 ?_
    refine lv_iload_n hx hb dj_gch_100 rfl (lv_at hl 1 rfl) ?_
    refine lv_ineg hx hb dj_gch_101 ?_
    rw [enn]
    refine j_tld hx hb t4 hS hv (by decide) dj_gch_102 ?_
    refine va_bast hx hb hK hP hD hS 1 0 rfl rfl (vp_in_nI (by omega) (by omega)) dj_gch_103 (fun H2 locs2 hP hD hS => ?_)
    rw [nI_clamp (by omega), j_narb _ (by omega)] at hP
    refine lv_iload hx hb dj_gch_104 (lv_at hl 2 rfl) ?_
    refine lv_if_eq (tgt := 118) hx hb dj_gch_106 (by decide) (fun _ => ?_) (fun q => absurd rfl q)
    refine lv_iload hx hb dj_gch_118 (lv_at hl 0 rfl) ?_
    have ef : jdf f n v = upd (upd f (n + 1) (nI (48 + v % 10))) n (nI (48 + v / 10)) := if_neg h10
    exact jret_i hx hb hr rfl hlk ⟨rfl, by rw [ef]; exact hP, hS.bare⟩ hS.2.2 (Nat.le_refl _) (Nat.le_refl _) dj_gch_120
theorem mj_aai (hB : jB D cA b d n f u0 H0) (hT : jTb q1 q2 (jA b d) u0 H0) (hv : v < 100) (hn : n + jdg v ≤ 16) : jM l jy_aai jc_aai 4 jr_aai 1 30 0 0 u0 H0 [.ref b, .int (nI v)] (jA b d) (fun r H1 => r = some (.ref b) ∧ va_P D jcl (jw b d cA (jdf f n v) (n + jdg v)) H1 ∧ va_S (jA b d) H0 H1 []) := by
  refine jM.of (by decide +kernel) (Nat.le_of_ble_eq_true rfl) ?_
  rintro p e s m below meth c ls ⟨hx, hb, hr, hml, hts, hown, hlk, hal, rfl⟩ hl
  have hl : lv_has ls 4 [(0, .ref b), (1, .int (nI v))] := hl
  have hB := hB.moved hal
  have hT := hT.moved hal
  obtain ⟨hK, hP, hbd, hZ⟩ := id hB
  obtain ⟨cb, g5, g6, g7, -⟩ := hB.cell
  refine lv_aload_n hx hb dj_aai_0 rfl (lv_at hl 0 rfl) ?_
  refine va_get (C := RJ4) (T := TJ4) (N := 4) (ci := 0) (v := .int (nI n)) hx hb hts j_bw hown hK hP 0 rfl rfl 3 (by decide) (hts _ j_w1174) (fun _ h => h) rfl dj_aai_1 ?_
  refine lv_istore_n (lv' := [(2, .int (nI n)), (0, .ref b), (1, .int (nI v))]) hx hb dj_aai_4 rfl hl (by decide) rfl (fun ls hl => ?_)
  refine lv_iload_n hx hb dj_aai_5 rfl (lv_at hl 0 rfl) ?_
  refine lv_iload_n hx hb dj_aai_6 rfl (lv_at hl 2 rfl) ?_
  refine jS (av := [.int (nI v)]) (rest := [.int (nI n)]) (k := 1) (ix := 245) (mj_siz l (u0 := s) (H0 := s.heap) hv) hx hb (hml.trans hl.1.symm) hown hts (hts _ j_w1291) j_w1292 j_w33 j_w1293 (by decide) (by decide +kernel) rfl (by decide) (by decide) ⟨Nat.le_refl _, Nat.le_refl _⟩ (Nat.le_of_ble_eq_true rfl) dj_aai_7 ?_
  rintro r H1 L ⟨rfl, rfl⟩ hL
  refine lv_iadd hx hb dj_aai_10 ?_
  rw [nI_add]
  refine lv_istore_n (lv' := [(3, .int (nI (n + jdg v))), (2, .int (nI n)), (0, .ref b), (1, .int (nI v))]) hx hb dj_aai_11 rfl hl (by decide) rfl (fun ls hl => ?_)
  refine lv_aload_n hx hb dj_aai_12 rfl (lv_at hl 2 rfl) ?_
  refine lv_iload_n hx hb dj_aai_13 rfl (lv_at hl 0 rfl) ?_
  refine jU (C := "java/lang/StringBuilder") (al := [.int (nI (n + jdg v))]) (rest := []) (k := 1) (ix := 100) (mj_ens l (u0 := s) (H0 := s.heap) hB hn) hx hb (hml.trans hl.1.symm) hown hts (hts _ j_w1196) j_w1198 j_w28 j_w1199 (hts _ (List.mem_append_right _ j_X_ens)) j_w1393 (by decide) (by decide +kernel) rfl g5 g6 g7 (by decide) (by decide) ⟨Nat.le_refl _, Nat.le_refl _⟩ (by decide) dj_aai_14 ?_
  rintro r H1 L2 ⟨rfl, rfl⟩ hL2
  refine lv_aload_n hx hb dj_aai_17 rfl (lv_at hl 2 rfl) ?_
  refine jU (C := "java/lang/StringBuilder") (al := []) (rest := []) (k := 0) (ix := 83) (mj_alat l (u0 := s) (H0 := s.heap) hB) hx hb (hml.trans hl.1.symm) hown hts (hts _ j_w1229) j_w1230 j_w28 j_w1233 (hts _ j_w1232) j_w1231 (by decide) (by decide +kernel) rfl g5 g6 g7 (by decide) (by decide) ⟨Nat.le_refl _, Nat.le_refl _⟩ (by decide) dj_aai_18 ?_
  rintro r H1 L3 ⟨rfl, rfl⟩ hL3
  refine lv_if_eq (tgt := 37) hx hb dj_aai_21 (by decide) (fun q => absurd q (by decide)) (fun _ => ?_)
  refine lv_iload_n hx hb dj_aai_24 rfl (lv_at hl 3 rfl) ?_
  refine lv_iload_n hx hb dj_aai_25 rfl (lv_at hl 0 rfl) ?_
  refine lv_aload_n hx hb dj_aai_26 rfl (lv_at hl 2 rfl) ?_
  refine va_get (C := RJ4) (T := TJ4) (N := 4) (ci := 0) (v := .ref d) hx hb hts j_bw hown hK hP 0 rfl rfl 0 (by decide) (hts _ j_w1171) (fun _ h => h) rfl dj_aai_27 ?_
  refine jS (av := [.int (nI v), .int (nI (n + jdg v)), .ref d]) (rest := []) (k := 3) (ix := 248) (mj_gch l (u0 := s) (H0 := s.heap) hB hT hv hn) hx hb (hml.trans hl.1.symm) hown hts (hts _ j_w1294) j_w1295 j_w33 j_w1296 (by decide) (by decide +kernel) rfl (by decide) (by decide) ⟨Nat.le_refl _, Nat.le_refl _⟩ (by decide) dj_aai_30 ?_
  rintro r H1 L4 ⟨rfl, hP, h9⟩ hL4
  have hS := h9.locs (l1 := [] ++ L ++ L2 ++ L3) (L := L4) (fun q hq => (List.mem_append.mp hq).elim (fun h => (List.mem_append.mp h).elim (fun h => (hL q h).elim) (fun h => (hL2 q h).elim)) (fun h => (hL3 q h).elim)) hL4
  have hD := j_D (n := n) (cA := cA) (f := jdf f n v) hbd
  refine lv_pop hx hb dj_aai_33 rfl ?_
  refine lv_goto (tgt := 48) hx hb dj_aai_34 (by decide) ?_
  refine lv_aload_n hx hb dj_aai_48 rfl (lv_at hl 2 rfl) ?_
  refine lv_iload_n hx hb dj_aai_49 rfl (lv_at hl 0 rfl) ?_
  refine va_put (C := RJ4) (T := TJ4) (N := 4) (ci := 0) hx hb hts j_bw tyJ4 tyJ4_ok nmJ4 hown hK hP hD hS 0 rfl rfl 3 (by decide) (hts _ j_w1174) (fun _ h => h) rfl (ty := .int) (v := .int (nI (n + jdg v))) (by decide +kernel) rfl rfl (show (3 : Nat) < 4 by decide) dj_aai_50 (fun H2 locs2 hP hD hS => ?_)
  refine lv_aload_n hx hb dj_aai_53 rfl (lv_at hl 2 rfl) ?_
  exact jret_a hx hb hr (Or.inl ⟨_, rfl⟩) hlk ⟨rfl, hP, hS.bare⟩ hS.2.2 (Nat.le_refl _) (Nat.le_refl _) dj_aai_54
theorem mj_bai (hB : jB D cA b d n f u0 H0) (hT : jTb q1 q2 (jA b d) u0 H0) (hv : v < 100) (hn : n + jdg v ≤ 16) : jM l jy_bai jc_bai 2 jr_bai 2 53 0 0 u0 H0 [.ref b, .int (nI v)] (jA b d) (fun r H1 => r = some (.ref b) ∧ va_P D jcl (jw b d cA (jdf f n v) (n + jdg v)) H1 ∧ va_S (jA b d) H0 H1 []) := by
  refine jM.of (by decide +kernel) (Nat.le_of_ble_eq_true rfl) ?_
  rintro p e s m below meth c ls ⟨hx, hb, hr, hml, hts, hown, hlk, hal, rfl⟩ hl
  have hl : lv_has ls 2 [(0, .ref b), (1, .int (nI v))] := hl
  have hB := hB.moved hal
  obtain ⟨cb, g5, g6, -, kC, g8⟩ := hB.cell
  refine lv_aload_n hx hb dj_bai_0 rfl (lv_at hl 0 rfl) ?_
  refine lv_iload_n hx hb dj_bai_1 rfl (lv_at hl 1 rfl) ?_
  refine jSU (al := [.int (nI v)]) (rest := []) (k := 1) (ix := 53) (mj_aai l (u0 := s) (H0 := s.heap) hB (hT.moved hal) hv hn) hx hb (hml.trans hl.1.symm) hown hts (hts _ j_w1288) j_w1289 j_w28 j_w1290 j_w1183 j_w1398 (by decide) (by decide +kernel) rfl g5 g6 g8 (by decide) (by decide) ⟨Nat.le_refl _, Nat.le_refl _⟩ (by decide) dj_bai_2 ?_
  rintro r H1 L ⟨rfl, h8, h9⟩ hL
  refine lv_pop hx hb dj_bai_5 rfl ?_
  refine lv_aload_n hx hb dj_bai_6 rfl (lv_at hl 0 rfl) ?_
  exact jret_a hx hb hr (Or.inl ⟨_, rfl⟩) hlk ⟨rfl, h8, h9⟩ hL (Nat.le_refl _) (Nat.le_refl _) dj_bai_7
end JI1
