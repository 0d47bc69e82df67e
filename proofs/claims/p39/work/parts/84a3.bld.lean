/-! THE JDK's OWN METHODS: a StringBuilder of sixteen bytes -/
abbrev jy_ain : MethodName := ⟨"java/lang/AbstractStringBuilder", "<init>", "(I)V"⟩
abbrev jc_ain : ByteArray := prog_13_method_2_code
abbrev jr_ain : Option FieldType := (Option.none : Option Jvm.ClassFile.FieldType)
abbrev jy_bin : MethodName := ⟨"java/lang/StringBuilder", "<init>", "()V"⟩
abbrev jc_bin : ByteArray := prog_31_method_1_code
abbrev jr_bin : Option FieldType := (Option.none : Option Jvm.ClassFile.FieldType)
abbrev jy_ens : MethodName := ⟨"java/lang/AbstractStringBuilder", "ensureCapacityInternal", "(I)V"⟩
abbrev jc_ens : ByteArray := prog_13_method_9_code
abbrev jr_ens : Option FieldType := (Option.none : Option Jvm.ClassFile.FieldType)
abbrev jy_alat : MethodName := ⟨"java/lang/AbstractStringBuilder", "isLatin1", "()Z"⟩
abbrev jc_alat : ByteArray := prog_13_method_68_code
abbrev jr_alat : Option FieldType := (Option.some Jvm.ClassFile.FieldType.boolean)
abbrev jy_gva : MethodName := ⟨"java/lang/AbstractStringBuilder", "getValue", "()[B"⟩
abbrev jc_gva : ByteArray := prog_13_method_64_code
abbrev jr_gva : Option FieldType := (Option.some (Jvm.ClassFile.FieldType.array Jvm.ClassFile.FieldType.byte))
abbrev jy_alen : MethodName := ⟨"java/lang/AbstractStringBuilder", "length", "()I"⟩
abbrev jc_alen : ByteArray := prog_13_method_6_code
abbrev jr_alen : Option FieldType := (Option.some Jvm.ClassFile.FieldType.int)
theorem j_w1162 : Jvm.Cond.methodLink "java/lang/AbstractStringBuilder" (3 : Nat) ({ cls := "java/lang/Object", name := "<init>", desc := "()V" } : Jvm.MethodName) ∈ j_W := j_at_in (i := 1171) (by decide +kernel)
theorem j_w40 : Jvm.Cond.instanceMethod ({ cls := "java/lang/Object", name := "<init>", desc := "()V" } : Jvm.MethodName) ∈ j_W := j_at_in (i := 49) (by decide +kernel)
theorem j_w41 : Jvm.Cond.code ({ cls := "java/lang/Object", name := "<init>", desc := "()V" } : Jvm.MethodName) object_method_1_code (1 : Nat) (Option.none : Option Jvm.ClassFile.FieldType) ∈ j_W := j_at_in (i := 50) (by decide +kernel)
theorem j_w1163 : Jvm.Cond.fieldLink "java/lang/AbstractStringBuilder" (18 : Nat) "java/lang/String" "COMPACT_STRINGS" "Z" ∈ j_W := j_at_in (i := 1172) (by decide +kernel)
theorem j_w660 : Jvm.Cond.arrayClass Jvm.ClassFile.FieldType.byte ∈ j_W := j_at_in (i := 669) (by decide +kernel)
theorem j_w1171 : Jvm.Cond.fieldLink "java/lang/AbstractStringBuilder" (15 : Nat) "java/lang/AbstractStringBuilder" "value" "[B" ∈ j_W := j_at_in (i := 1180) (by decide +kernel)
theorem j_w1172 : Jvm.Cond.fieldLink "java/lang/AbstractStringBuilder" (22 : Nat) "java/lang/AbstractStringBuilder" "coder" "B" ∈ j_W := j_at_in (i := 1181) (by decide +kernel)
theorem j_w1159 : Jvm.Cond.methodLink "java/lang/StringBuilder" (1 : Nat) ({ cls := "java/lang/AbstractStringBuilder", name := "<init>", desc := "(I)V" } : Jvm.MethodName) ∈ j_W := j_at_in (i := 1168) (by decide +kernel)
theorem j_w1160 : Jvm.Cond.instanceMethod ({ cls := "java/lang/AbstractStringBuilder", name := "<init>", desc := "(I)V" } : Jvm.MethodName) ∈ j_W := j_at_in (i := 1169) (by decide +kernel)
theorem j_w28 : Jvm.Cond.initialized "java/lang/AbstractStringBuilder" ∈ j_W := j_at_in (i := 37) (by decide +kernel)
theorem j_w1161 : Jvm.Cond.code ({ cls := "java/lang/AbstractStringBuilder", name := "<init>", desc := "(I)V" } : Jvm.MethodName) prog_13_method_2_code (2 : Nat) (Option.none : Option Jvm.ClassFile.FieldType) ∈ j_W := j_at_in (i := 1170) (by decide +kernel)
theorem j_w1174 : Jvm.Cond.fieldLink "java/lang/AbstractStringBuilder" (79 : Nat) "java/lang/AbstractStringBuilder" "count" "I" ∈ j_W := j_at_in (i := 1183) (by decide +kernel)
theorem dj_ain_0 : decode jc_ain 0 = .ok (.aload_n 0, 1) := by decide +kernel
theorem dj_ain_1 : decode jc_ain 1 = .ok (.invokespecial 3, 3) := by decide +kernel
theorem dj_ain_4 : decode jc_ain 4 = .ok (.getstatic 18, 3) := by decide +kernel
theorem dj_ain_7 : decode jc_ain 7 = .ok (.ifCond .eq 18, 3) := by decide +kernel
theorem dj_ain_10 : decode jc_ain 10 = .ok (.aload_n 0, 1) := by decide +kernel
theorem dj_ain_11 : decode jc_ain 11 = .ok (.iload_n 1, 1) := by decide +kernel
theorem dj_ain_12 : decode jc_ain 12 = .ok (.newarray .byte, 2) := by decide +kernel
theorem dj_ain_14 : decode jc_ain 14 = .ok (.putfield 15, 3) := by decide +kernel
theorem dj_ain_17 : decode jc_ain 17 = .ok (.aload_n 0, 1) := by decide +kernel
theorem dj_ain_18 : decode jc_ain 18 = .ok (.iconst 0, 1) := by decide +kernel
theorem dj_ain_19 : decode jc_ain 19 = .ok (.putfield 22, 3) := by decide +kernel
theorem dj_ain_22 : decode jc_ain 22 = .ok (.goto 16, 3) := by decide +kernel
theorem dj_ain_38 : decode jc_ain 38 = .ok (.return_, 1) := by decide +kernel
theorem dj_bin_0 : decode jc_bin 0 = .ok (.aload_n 0, 1) := by decide +kernel
theorem dj_bin_1 : decode jc_bin 1 = .ok (.bipush 16, 2) := by decide +kernel
theorem dj_bin_3 : decode jc_bin 3 = .ok (.invokespecial 1, 3) := by decide +kernel
theorem dj_bin_6 : decode jc_bin 6 = .ok (.return_, 1) := by decide +kernel
theorem dj_ens_0 : decode jc_ens 0 = .ok (.aload_n 0, 1) := by decide +kernel
theorem dj_ens_1 : decode jc_ens 1 = .ok (.getfield 15, 3) := by decide +kernel
theorem dj_ens_4 : decode jc_ens 4 = .ok (.arraylength, 1) := by decide +kernel
theorem dj_ens_5 : decode jc_ens 5 = .ok (.aload_n 0, 1) := by decide +kernel
theorem dj_ens_6 : decode jc_ens 6 = .ok (.getfield 22, 3) := by decide +kernel
theorem dj_ens_9 : decode jc_ens 9 = .ok (.ishr, 1) := by decide +kernel
theorem dj_ens_10 : decode jc_ens 10 = .ok (.istore_n 2, 1) := by decide +kernel
theorem dj_ens_11 : decode jc_ens 11 = .ok (.iload_n 1, 1) := by decide +kernel
theorem dj_ens_12 : decode jc_ens 12 = .ok (.iload_n 2, 1) := by decide +kernel
theorem dj_ens_13 : decode jc_ens 13 = .ok (.isub, 1) := by decide +kernel
theorem dj_ens_14 : decode jc_ens 14 = .ok (.ifCond .le 24, 3) := by decide +kernel
theorem dj_ens_38 : decode jc_ens 38 = .ok (.return_, 1) := by decide +kernel
theorem dj_alat_0 : decode jc_alat 0 = .ok (.getstatic 18, 3) := by decide +kernel
theorem dj_alat_3 : decode jc_alat 3 = .ok (.ifCond .eq 14, 3) := by decide +kernel
theorem dj_alat_6 : decode jc_alat 6 = .ok (.aload_n 0, 1) := by decide +kernel
theorem dj_alat_7 : decode jc_alat 7 = .ok (.getfield 22, 3) := by decide +kernel
theorem dj_alat_10 : decode jc_alat 10 = .ok (.ifCond .ne 7, 3) := by decide +kernel
theorem dj_alat_13 : decode jc_alat 13 = .ok (.iconst 1, 1) := by decide +kernel
theorem dj_alat_14 : decode jc_alat 14 = .ok (.goto 4, 3) := by decide +kernel
theorem dj_alat_18 : decode jc_alat 18 = .ok (.ireturn, 1) := by decide +kernel
theorem dj_gva_0 : decode jc_gva 0 = .ok (.aload_n 0, 1) := by decide +kernel
theorem dj_gva_1 : decode jc_gva 1 = .ok (.getfield 15, 3) := by decide +kernel
theorem dj_gva_4 : decode jc_gva 4 = .ok (.areturn, 1) := by decide +kernel
theorem dj_alen_0 : decode jc_alen 0 = .ok (.aload_n 0, 1) := by decide +kernel
theorem dj_alen_1 : decode jc_alen 1 = .ok (.getfield 79, 3) := by decide +kernel
theorem dj_alen_4 : decode jc_alen 4 = .ok (.ireturn, 1) := by decide +kernel
section JW2
variable {p : Program} {l : Launch} {e : Env} {R : Room} {s : State} {m : MethodId} {args : Array Value} {below : List Frame} {meth : Method} {c : Code} {H : Heap} {locs : List Loc} {cells slots : Nat} {Q : State → Prop} {pc : Nat} {ls : Array Slot} {cc : ByteArray} {post : Option Value → Heap → Prop} {A : Nat → Prop} {mc ms : Nat} {y : MethodName} {bc : ByteArray} {n fr lo : Nat} {ret : Option FieldType} {av : List Value} {own : String} {ix : Nat} {rest : List Value}
/-- a method that the receiver's class C answers with y where the reference names x -/
theorem jX {C : String} {x : MethodName} {xb : ByteArray} {xn : Nat} {xr : Option FieldType} {b : Nat} {cellB : Cell} {al : List Value} (hM : jM l y bc n ret fr lo mc ms s H (.ref b :: al) A post) (hx : p.tables.exec = Jvm.exec) (hb : c.code = cc) (hml : c.maxLocals = ls.size) (hown : s.vm.findClass own = some m.cls) (hts : ∀ w ∈ j_W, w.before args s = true)
    (w1 : (Cond.methodLink own ix x).before args s = true) (w2 : Cond.instanceMethod y ∈ j_W) (w3 : Cond.initialized y.cls ∈ j_W) (w4 : Cond.code y bc n ret ∈ j_W) (w5 : Cond.selects C x y ∈ j_W) (w6 : Cond.sameMethod x.cls x.cls x.name x.desc ∈ j_W) (w7 : Cond.instanceMethod x ∈ j_W) (w8 : Cond.code x xb xn xr ∈ j_W) (hmh : x.cls ≠ "java/lang/invoke/MethodHandle" ∧ x.cls ≠ "java/lang/invoke/VarHandle") {k : Nat} (hd : (parseMethodDescriptor x.desc).map (fun d => d.parameters.length) = some k) (hk : al.length = k)
    (hcell : H[b]? = some cellB) (hobj : cellB.vm.isStatics = false) (hcls : s.vm.findClass C = some cellB.cls)
    (hfr : fr + 1 ≤ R.frames) (hlo : lo + n + 19 ≤ R.locals) (hf : cells + mc ≤ R.cells ∧ slots + ms ≤ R.slots) (hW : (rest.map fun v => v.category).sum ≤ 8) (hdg : decode cc pc = .ok (.invokevirtual ix, 3))
    (kk : jKK p l e R s m args below meth c locs cells slots Q A post mc ms pc ls rest) : W p l e R s m args below meth c H locs cells slots Q (F0 m pc ls (al.reverse ++ .ref b :: rest)) := by
  refine j_go (av := .ref b :: al) (rest := rest) (fun T hT X => ?_) kk
  exact va_callVU X hx (C := C) (owner := x.cls) (x := x) (y := y) (bytes := bc) (maxL := n) (ret := ret) hown w1 (hts _ w6) (va_Decl.of (hts _ w7) (hts _ w8)) hmh (hts _ w5) (hts _ w2) (hts _ w4) (j_back hM w4 w3 hts hfr hlo) (by rw [hT]; exact hcell) hobj hcls (g := F0 m pc ls (al.reverse ++ .ref b :: rest)) rfl hml.symm (argsL := al) (rest := rest) (fun sig h => by rw [h] at hd; exact hk.trans (Option.some.inj hd).symm) rfl (lv_room hW) (by rw [hb]; exact hdg) (j_pre hf T hT)
/-- super.m(..) -/
theorem jSU {b : Nat} {cellB : Cell} {kB : Class} {al : List Value} (hM : jM l y bc n ret fr lo mc ms s H (.ref b :: al) A post) (hx : p.tables.exec = Jvm.exec) (hb : c.code = cc) (hml : c.maxLocals = ls.size) (hown : s.vm.findClass own = some m.cls) (hts : ∀ w ∈ j_W, w.before args s = true)
    (w1 : (Cond.methodLink own ix y).before args s = true) (w2 : Cond.instanceMethod y ∈ j_W) (w3 : Cond.initialized y.cls ∈ j_W) (w4 : Cond.code y bc n ret ∈ j_W) (w5 : Cond.superclass own y.cls ∈ j_W) (w6 : Cond.sameMethod y.cls y.cls y.name y.desc ∈ j_W) (hno : y.name ≠ "<init>") {k : Nat} (hd : (parseMethodDescriptor y.desc).map (fun d => d.parameters.length) = some k) (hk : al.length = k)
    (hcell : H[b]? = some cellB) (hobj : cellB.vm.isStatics = false) (hkB : s.vm.classes[cellB.cls]? = some kB)
    (hfr : fr + 1 ≤ R.frames) (hlo : lo + n + 19 ≤ R.locals) (hf : cells + mc ≤ R.cells ∧ slots + ms ≤ R.slots) (hW : (rest.map fun v => v.category).sum ≤ 8) (hdg : decode cc pc = .ok (.invokespecial ix, 3))
    (kk : jKK p l e R s m args below meth c locs cells slots Q A post mc ms pc ls rest) : W p l e R s m args below meth c H locs cells slots Q (F0 m pc ls (al.reverse ++ .ref b :: rest)) := by
  refine j_go (av := .ref b :: al) (rest := rest) (fun T hT X => ?_) kk
  exact va_callSU X hx (bytes := bc) (maxL := n) (ret := ret) hown w1 (hts _ w6) (hts _ w5) (hts _ w2) (hts _ w4) hno (j_back hM w4 w3 hts hfr hlo) (by rw [hT]; exact hcell) hobj hkB (g := F0 m pc ls (al.reverse ++ .ref b :: rest)) rfl hml.symm (argsL := al) (rest := rest) (fun sig h => by rw [h] at hd; exact hk.trans (Option.some.inj hd).symm) rfl (lv_room hW) (by rw [hb]; exact hdg) (j_pre hf T hT)
/-- a private method answers itself, whatever the receiver's class -/
theorem j_selp {C : String} {k : Nat} (hy : y.cls ≠ "java/lang/invoke/MethodHandle" ∧ y.cls ≠ "java/lang/invoke/VarHandle") (hins : (Cond.instantiable C k).before args s = true) (hsame : (Cond.sameMethod y.cls y.cls y.name y.desc).before args s = true) (hpriv : (Cond.privateMethod y).before args s = true) (hinst : (Cond.instanceMethod y).before args s = true) : (Cond.selects C y y).before args s = true := by
  obtain ⟨c0, k0, hc, hk, -, hniab, -, -⟩ := Cond.instantiable_spec hins
  obtain ⟨mk, methM, hnamed, hmethM, -, -⟩ := Cond.instanceMethod_spec hinst
  have hfound : s.methodFound? y.cls y.name y.desc = some mk := State.methodFound?_of_named hnamed hy
  obtain ⟨cn, ck, r, h1, h2, h3, h4, h5⟩ := Cond.sameMethod_found hsame
  have hcls : mk.cls = cn := Option.some.inj ((findClass_of_methodNamed hnamed).symm.trans h1)
  have hsel : selectMethod {} s.vm c0 mk = .method mk := selectMethod_private hmethM (Cond.privateMethod_at hpriv mk methM hnamed hmethM)
  simp only [Cond.before, Cond.holds, Cond.value, hc, hfound, hnamed, hsel, hcls, h2]
  simp; exact h3
end JW2
abbrev jcl : List vw_C := [(RJ4, TJ4, 4), (RJ0, TJ0, 4)]
theorem j_bw_ok : am_al2 (fun w i => j_at i w) (u_ws RJ4 TJ4 4) [1184, 1186, 1188, 1190] = true := by decide +kernel
theorem j_bw : ∀ w ∈ u_ws RJ4 TJ4 4, w ∈ j_W := fun w hw => by
  obtain ⟨i, hi⟩ := am_al2_in j_bw_ok w hw
  exact j_at_in hi
theorem j_tw_ok : am_al2 (fun w i => j_at i w) (u_ws RJ0 TJ0 4) [670, 672, 1378, 1380] = true := by decide +kernel
theorem j_tw : ∀ w ∈ u_ws RJ0 TJ0 4, w ∈ j_W := fun w hw => by
  obtain ⟨i, hi⟩ := am_al2_in j_tw_ok w hw
  exact j_at_in hi
abbrev jfs (d n : Nat) : List Value := [.ref d, .int 0, .int 0, .int (nI n)]
abbrev jw (b d : Nat) (cA : ClassId) (f : Nat → Int32) (n : Nat) : va_W := [(b, .inr (0, jfs d n)), (d, .inl (cA, 16, .inl f))]
abbrev jA (b d : Nat) : Nat → Prop := fun q => q = b ∨ q = d
theorem j_D {b d n : Nat} {cA : ClassId} {f : Nat → Int32} (h : b ≠ d) : va_D (jA b d) (jw b d cA f n) := by
  have key : ∀ (i : Nat) (x : Nat × va_E), (jw b d cA f n)[i]? = some x → (i = 0 ∧ x.1 = b) ∨ (i = 1 ∧ x.1 = d) := by
    intro i x hi
    match i, hi with
    | 0, hi => exact Or.inl ⟨rfl, by rw [← Option.some.inj hi]⟩
    | 1, hi => exact Or.inr ⟨rfl, by rw [← Option.some.inj hi]⟩
    | k + 2, hi => simp at hi
  refine ⟨fun i j x z hi hj e => ?_, fun i x hi => ?_⟩
  · rcases key i x hi with ⟨h1, h2⟩ | ⟨h1, h2⟩ <;> rcases key j z hj with ⟨h3, h4⟩ | ⟨h3, h4⟩
    · omega
    · exact absurd (h2.symm.trans (e.trans h4)) h
    · exact absurd (h4.symm.trans (e.symm.trans h2)) h
    · omega
  · rcases key i x hi with ⟨-, h2⟩ | ⟨-, h2⟩
    · exact Or.inl h2
    · exact Or.inr h2
def jB (D : va_G) (cA : ClassId) (b d n : Nat) (f : Nat → Int32) (U : State) (H : Heap) : Prop := va_K D jcl [(cA, .byte)] U ∧ va_P D jcl (jw b d cA f n) H ∧ b ≠ d ∧ va_Z "java/lang/String" "COMPACT_STRINGS" "Z" (.int 1) (jA b d) U H
theorem jB.moved {D : va_G} {cA : ClassId} {b d n : Nat} {f : Nat → Int32} {u U : State} {H : Heap} (hvm : u.vm.Alike U.vm) (h : jB D cA b d n f u H) : jB D cA b d n f U H := ⟨va_K.moved hvm h.1, h.2.1, h.2.2.1, va_Z.moved hvm h.2.2.2⟩
theorem jB.to {D : va_G} {cA : ClassId} {b d n n' : Nat} {f f' : Nat → Int32} {U : State} {H H1 : Heap} (h : jB D cA b d n f U H) (hP : va_P D jcl (jw b d cA f' n') H1) (hS : va_S (jA b d) H H1 []) : jB D cA b d n' f' U H1 := ⟨h.1, hP, h.2.2.1, h.2.2.2.kept hS.2.1⟩
theorem j_cell {D : va_G} {tys : List (ClassId × FieldType)} {ws : va_W} {b : Nat} {fs : List Value} {U : State} {H : Heap} (hK : va_K D jcl tys U) (hP : va_P D jcl ws H) (h0 : ws[0]? = some (b, .inr (0, fs))) : ∃ cell : Cell, H[b]? = some cell ∧ cell.vm.isStatics = false ∧ U.vm.findClass "java/lang/StringBuilder" = some cell.cls ∧ ∃ kC : Class, U.vm.classes[cell.cls]? = some kC := by
  obtain ⟨r, h1, cell, q1, q2, q3, -⟩ := hP 0 _ h0
  obtain ⟨-, g1, kC, g2, -⟩ := hK.1 0 _ rfl
  exact ⟨cell, q1, by rw [q3]; rfl, by rw [q2]; exact g1, kC, by rw [q2]; exact g2⟩
theorem jB.cell {D : va_G} {cA : ClassId} {b d n : Nat} {f : Nat → Int32} {U : State} {H : Heap} (h : jB D cA b d n f U H) : ∃ cell : Cell, H[b]? = some cell ∧ cell.vm.isStatics = false ∧ U.vm.findClass "java/lang/StringBuilder" = some cell.cls ∧ ∃ kC : Class, U.vm.classes[cell.cls]? = some kC := j_cell h.1 h.2.1 rfl
/-- writing behind writing -/
theorem va_S.then {A : Nat → Prop} {H0 H1 H2 : Heap} {l1 l2 : List Loc} (h : va_S A H0 H1 l1) (h' : va_S A H1 H2 l2) : va_S A H0 H2 (l1 ++ l2) :=
  ⟨Nat.le_trans h.1 h'.1, fun q q1 q2 => (h'.2.1 q (Nat.lt_of_lt_of_le q1 h.1) q2).trans (h.2.1 q q1 q2), fun q hq => (List.mem_append.mp hq).elim (h.2.2 q) (h'.2.2 q)⟩
theorem va_S.locs {A : Nat → Prop} {H0 H1 : Heap} {l1 L : List Loc} (h : va_S A H0 H1 []) (h' : ∀ q ∈ l1, A q.base) (hL : ∀ q ∈ L, A q.base) : va_S A H0 H1 (l1 ++ L) :=
  ⟨h.1, h.2.1, fun q hq => (List.mem_append.mp hq).elim (h' q) (hL q)⟩
theorem va_S.bare {A : Nat → Prop} {H0 H1 : Heap} {l1 : List Loc} (h : va_S A H0 H1 l1) : va_S A H0 H1 [] := ⟨h.1, h.2.1, fun q hq => absurd hq List.not_mem_nil⟩
section JB1
variable (l : Launch) {u0 : State} {H0 : Heap} {D : va_G} {cA : ClassId} {b d n : Nat} {f : Nat → Int32}
/-- the bytes are laid -/
theorem mj_ain (hK : va_K D jcl [(cA, .byte)] u0) (hP : va_P D jcl [(b, .inr (0, [.null, .int 0, .int 0, .int 0]))] H0) (hZ : va_Z "java/lang/String" "COMPACT_STRINGS" "Z" (.int 1) (fun q => q = b ∨ H0.size ≤ q) u0 H0) : jM l jy_ain jc_ain 2 jr_ain 1 12 1 16 u0 H0 [.ref b, .int 16] (fun q => q = b ∨ H0.size ≤ q) (fun v H1 => v = none ∧ ∃ d, H0.size ≤ d ∧ va_P D jcl (jw b d cA (fun _ => 0) 0) H1 ∧ va_S (fun q => q = b ∨ H0.size ≤ q) H0 H1 []) := by
  refine jM.of (by decide +kernel) (Nat.le_of_ble_eq_true rfl) ?_
  rintro p e s m below meth c ls ⟨hx, hb, hr, hml, hts, hown, hlk, hal, rfl⟩ hl
  have hl : lv_has ls 2 [(0, .ref b), (1, .int 16)] := hl
  have hK := va_K.moved hal hK
  have hZ := va_Z.moved hal hZ
  have hlt := (hP 0 _ rfl).lt
  have hA : ∀ q : Nat, s.heap.size ≤ q → (fun q => q = b ∨ s.heap.size ≤ q) q := fun q h => Or.inr h
  refine lv_aload_n hx hb dj_ain_0 rfl (lv_at hl 0 rfl) ?_
  refine W.objInit hx hb hown (hts _ j_w1162) (hts _ j_w40) (hts _ j_w41) rfl (hml.trans hl.1.symm).symm rfl dj_ain_1 (by decide) (Nat.le_of_ble_eq_true rfl) ?_
  show W p l e _ s m _ below meth c s.heap [] 0 0 _ (F0 m 4 ls [])
  refine va_gets hx hb hZ va_S.rf hown (hts _ j_w1163) (fun _ h => h) dj_ain_4 ?_
  refine lv_if_eq (tgt := 25) hx hb dj_ain_7 (by decide) (fun q => absurd q (by decide)) (fun _ => ?_)
  refine lv_aload_n hx hb dj_ain_10 rfl (lv_at hl 0 rfl) ?_
  refine lv_iload_n hx hb dj_ain_11 rfl (lv_at hl 1 rfl) ?_
  refine va_newaK hx hb (atype := .byte) (hts _ j_w660) rfl dj_ain_12 rfl (n := 16) (N := 16) (by decide) (by decide) (by decide) (by decide) (by decide) rfl fun H1 cA' e1 z1 o1 _ hNm => ?_
  rw [show cA' = cA from Option.some.inj (hNm.symm.trans (hK.2 0 _ rfl).2)] at e1
  have hbq : b ≠ s.heap.size := by have : b < s.heap.size := hlt; omega
  have hP : va_P D jcl [(b, .inr (0, [.null, .int 0, .int 0, .int 0])), (s.heap.size, .inl (cA, 16, .inl (fun _ => 0)))] H1 := by
    intro i x hi
    match i, hi with
    | 0, hi =>
      have h0 := hP 0 _ rfl
      cases hi
      exact h0.kept (o1 b hlt)
    | 1, hi => cases hi; exact e1
    | k + 2, hi => simp at hi
  have hS : va_S (fun q => q = b ∨ s.heap.size ≤ q) s.heap H1 [] := ⟨by omega, fun q q1 _ => o1 q q1, fun q hq => absurd hq List.not_mem_nil⟩
  have hD : va_D (fun q => q = b ∨ s.heap.size ≤ q) [(b, .inr (0, [.null, .int 0, .int 0, .int 0])), (s.heap.size, .inl (cA, 16, .inl (fun _ => 0)))] := by
    have key : ∀ (i : Nat) (x : Nat × va_E), ([(b, .inr (0, [.null, .int 0, .int 0, .int 0])), (s.heap.size, .inl (cA, 16, .inl (fun _ => 0)))] : va_W)[i]? = some x → (i = 0 ∧ x.1 = b) ∨ (i = 1 ∧ x.1 = s.heap.size) := by
      intro i x hi
      match i, hi with
      | 0, hi => exact Or.inl ⟨rfl, by rw [← Option.some.inj hi]⟩
      | 1, hi => exact Or.inr ⟨rfl, by rw [← Option.some.inj hi]⟩
      | k + 2, hi => simp at hi
    refine ⟨fun i j x z hi hj e => ?_, fun i x hi => ?_⟩
    · rcases key i x hi with ⟨h1, h2⟩ | ⟨h1, h2⟩ <;> rcases key j z hj with ⟨h3, h4⟩ | ⟨h3, h4⟩
      · omega
      · exact absurd (h2.symm.trans (e.trans h4)) hbq
      · exact absurd (h4.symm.trans (e.symm.trans h2)) hbq
      · omega
    · rcases key i x hi with ⟨-, h2⟩ | ⟨-, h2⟩
      · exact Or.inl h2
      · exact Or.inr (Nat.le_of_eq h2.symm)
  show W p l e _ s m _ below meth c H1 [] 1 16 _ (F0 m 14 ls [.ref s.heap.size, .ref b])
  refine va_put (C := RJ4) (T := TJ4) (N := 4) (ci := 0) hx hb hts j_bw tyJ4 tyJ4_ok nmJ4 hown hK hP hD hS 0 rfl rfl 0 (by decide) (hts _ j_w1171) (fun _ h => h) rfl (ty := .array .byte) (v := .ref s.heap.size) (by decide +kernel) rfl rfl (show (0 : Nat) < 4 by decide) dj_ain_14 (fun H2 locs2 hP hD hS => ?_)
  refine lv_aload_n hx hb dj_ain_17 rfl (lv_at hl 0 rfl) ?_
  refine lv_iconst (v := 0) hx hb dj_ain_18 (by decide) ?_
  refine va_put (C := RJ4) (T := TJ4) (N := 4) (ci := 0) hx hb hts j_bw tyJ4 tyJ4_ok nmJ4 hown hK hP hD hS 0 rfl rfl 1 (by decide) (hts _ j_w1172) (fun _ h => h) rfl (ty := .byte) (v := .int 0) (by decide +kernel) rfl rfl (show (1 : Nat) < 4 by decide) dj_ain_19 (fun H3 locs3 hP hD hS => ?_)
  refine lv_goto (tgt := 38) hx hb dj_ain_22 (by decide) ?_
  exact jret_v hx hb hr hlk ⟨rfl, s.heap.size, Nat.le_refl _, hP, hS.bare⟩ hS.2.2 (by decide) (by decide) dj_ain_38
theorem mj_bin (hK : va_K D jcl [(cA, .byte)] u0) (hP : va_P D jcl [(b, .inr (0, [.null, .int 0, .int 0, .int 0]))] H0) (hZ : va_Z "java/lang/String" "COMPACT_STRINGS" "Z" (.int 1) (fun q => q = b ∨ H0.size ≤ q) u0 H0) : jM l jy_bin jc_bin 1 jr_bin 2 33 1 16 u0 H0 [.ref b] (fun q => q = b ∨ H0.size ≤ q) (fun v H1 => v = none ∧ ∃ d, H0.size ≤ d ∧ va_P D jcl (jw b d cA (fun _ => 0) 0) H1 ∧ va_S (fun q => q = b ∨ H0.size ≤ q) H0 H1 []) := by
  refine jM.of (by decide +kernel) (Nat.le_of_ble_eq_true rfl) ?_
  rintro p e s m below meth c ls ⟨hx, hb, hr, hml, hts, hown, hlk, hal, rfl⟩ hl
  have hl : lv_has ls 1 [(0, .ref b)] := hl
  refine lv_aload_n hx hb dj_bin_0 rfl (lv_at hl 0 rfl) ?_
  refine lv_bipush (v := 16) hx hb dj_bin_1 (by decide) ?_
  refine jI (al := [.int 16]) (rest := []) (k := 1) (ix := 1) (mj_ain l (u0 := s) (H0 := s.heap) (va_K.moved hal hK) hP (va_Z.moved hal hZ)) hx hb (hml.trans hl.1.symm) hown hts rfl (hts _ j_w1159) j_w1160 j_w28 j_w1161 (by decide) (by decide +kernel) rfl (by decide) (by decide) (by decide) (by decide) dj_bin_3 ?_
  rintro v H1 L ⟨rfl, d, h1, h2, h3⟩ hL
  exact jret_v hx hb hr hlk ⟨rfl, d, h1, h2, h3⟩ hL (by decide) (by decide) dj_bin_6
theorem j_le16 : ∀ k, k ≤ 16 → nI k - nI 16 ≤ 0 := by decide +kernel
theorem mj_ens {k : Nat} (hB : jB D cA b d n f u0 H0) (hk : k ≤ 16) : jM l jy_ens jc_ens 3 jr_ens 0 0 0 0 u0 H0 [.ref b, .int (nI k)] jNo (fun v H => v = none ∧ H = H0) := by
  refine jM.of (by decide +kernel) (Nat.le_of_ble_eq_true rfl) ?_
  rintro p e s m below meth c ls ⟨hx, hb, hr, hml, hts, hown, hlk, hal, rfl⟩ hl
  have hl : lv_has ls 3 [(0, .ref b), (1, .int (nI k))] := hl
  obtain ⟨hK, hP, -, -⟩ := hB.moved hal
  refine lv_aload_n hx hb dj_ens_0 rfl (lv_at hl 0 rfl) ?_
  refine va_get (C := RJ4) (T := TJ4) (N := 4) (ci := 0) (v := .ref d) hx hb hts j_bw hown hK hP 0 rfl rfl 0 (by decide) (hts _ j_w1171) (fun _ h => h) rfl dj_ens_1 ?_
  refine va_alen hx hb hK hP 1 0 rfl rfl (v := nI 16) rfl dj_ens_4 ?_
  refine lv_aload_n hx hb dj_ens_5 rfl (lv_at hl 0 rfl) ?_
  refine va_get (C := RJ4) (T := TJ4) (N := 4) (ci := 0) (v := .int 0) hx hb hts j_bw hown hK hP 0 rfl rfl 1 (by decide) (hts _ j_w1172) (fun _ h => h) rfl dj_ens_6 ?_
  refine lv_ishr hx hb dj_ens_9 ?_
  rw [sb_shr0]
  refine lv_istore_n (lv' := [(2, .int (nI 16)), (0, .ref b), (1, .int (nI k))]) hx hb dj_ens_10 rfl hl (by decide) rfl (fun ls hl => ?_)
  refine lv_iload_n hx hb dj_ens_11 rfl (lv_at hl 2 rfl) ?_
  refine lv_iload_n hx hb dj_ens_12 rfl (lv_at hl 0 rfl) ?_
  refine lv_isub hx hb dj_ens_13 ?_
  refine lv_if_le (tgt := 38) hx hb dj_ens_14 (by decide) (fun _ => ?_) (fun q => absurd (j_le16 k hk) q)
  exact jret_v hx hb hr hlk ⟨rfl, rfl⟩ j_nil (Nat.le_refl _) (Nat.le_refl _) dj_ens_38
theorem mj_alat (hB : jB D cA b d n f u0 H0) : jM l jy_alat jc_alat 1 jr_alat 0 0 0 0 u0 H0 [.ref b] jNo (fun v H => v = some (.int 1) ∧ H = H0) := by
  refine jM.of (by decide +kernel) (Nat.le_of_ble_eq_true rfl) ?_
  rintro p e s m below meth c ls ⟨hx, hb, hr, hml, hts, hown, hlk, hal, rfl⟩ hl
  have hl : lv_has ls 1 [(0, .ref b)] := hl
  obtain ⟨hK, hP, -, hZ⟩ := hB.moved hal
  refine va_gets hx hb hZ va_S.rf hown (hts _ j_w1163) (fun _ h => h) dj_alat_0 ?_
  refine lv_if_eq (tgt := 17) hx hb dj_alat_3 (by decide) (fun q => absurd q (by decide)) (fun _ => ?_)
  refine lv_aload_n hx hb dj_alat_6 rfl (lv_at hl 0 rfl) ?_
  refine va_get (C := RJ4) (T := TJ4) (N := 4) (ci := 0) (v := .int 0) hx hb hts j_bw hown hK hP 0 rfl rfl 1 (by decide) (hts _ j_w1172) (fun _ h => h) rfl dj_alat_7 ?_
  refine lv_if_ne (tgt := 17) hx hb dj_alat_10 (by decide) (fun q => absurd rfl q) (fun _ => ?_)
  refine lv_iconst (v := 1) hx hb dj_alat_13 (by decide) ?_
  refine lv_goto (tgt := 18) hx hb dj_alat_14 (by decide) ?_
  exact jret_i hx hb hr rfl hlk ⟨rfl, rfl⟩ j_nil (Nat.le_refl _) (Nat.le_refl _) dj_alat_18
theorem mj_gva (hB : jB D cA b d n f u0 H0) : jM l jy_gva jc_gva 1 jr_gva 0 0 0 0 u0 H0 [.ref b] jNo (fun v H => v = some (.ref d) ∧ H = H0) := by
  refine jM.of (by decide +kernel) (Nat.le_of_ble_eq_true rfl) ?_
  rintro p e s m below meth c ls ⟨hx, hb, hr, hml, hts, hown, hlk, hal, rfl⟩ hl
  have hl : lv_has ls 1 [(0, .ref b)] := hl
  obtain ⟨hK, hP, -, hZ⟩ := hB.moved hal
  refine lv_aload_n hx hb dj_gva_0 rfl (lv_at hl 0 rfl) ?_
  refine va_get (C := RJ4) (T := TJ4) (N := 4) (ci := 0) (v := .ref d) hx hb hts j_bw hown hK hP 0 rfl rfl 0 (by decide) (hts _ j_w1171) (fun _ h => h) rfl dj_gva_1 ?_
  exact jret_a hx hb hr (Or.inr ⟨_, rfl⟩) hlk ⟨rfl, rfl⟩ j_nil (Nat.le_refl _) (Nat.le_refl _) dj_gva_4
theorem mj_alen (hB : jB D cA b d n f u0 H0) : jM l jy_alen jc_alen 1 jr_alen 0 0 0 0 u0 H0 [.ref b] jNo (fun v H => v = some (.int (nI n)) ∧ H = H0) := by
  refine jM.of (by decide +kernel) (Nat.le_of_ble_eq_true rfl) ?_
  rintro p e s m below meth c ls ⟨hx, hb, hr, hml, hts, hown, hlk, hal, rfl⟩ hl
  have hl : lv_has ls 1 [(0, .ref b)] := hl
  obtain ⟨hK, hP, -, hZ⟩ := hB.moved hal
  refine lv_aload_n hx hb dj_alen_0 rfl (lv_at hl 0 rfl) ?_
  refine va_get (C := RJ4) (T := TJ4) (N := 4) (ci := 0) (v := .int (nI n)) hx hb hts j_bw hown hK hP 0 rfl rfl 3 (by decide) (hts _ j_w1174) (fun _ h => h) rfl dj_alen_1 ?_
  exact jret_i hx hb hr rfl hlk ⟨rfl, rfl⟩ j_nil (Nat.le_refl _) (Nat.le_refl _) dj_alen_4
end JB1
