/-! WHAT GOES BESIDE: a String constant that goes to a call, a text that is put together -/
abbrev jy_some : MethodName := ⟨"BellTelegraphLaw", "some", "(II)I"⟩
abbrev jc_some : ByteArray := method_3_code
abbrev jr_some : Option FieldType := (Option.some Jvm.ClassFile.FieldType.int)
theorem j_w1185 : Jvm.Cond.methodLink "BellTelegraphLaw" (243 : Nat) ({ cls := "java/lang/StringBuilder", name := "append", desc := "(Ljava/lang/String;)Ljava/lang/StringBuilder;" } : Jvm.MethodName) ∈ j_W := j_at_in (i := 1194) (by decide +kernel)
theorem j_w1186 : Jvm.Cond.instanceMethod ({ cls := "java/lang/StringBuilder", name := "append", desc := "(Ljava/lang/String;)Ljava/lang/StringBuilder;" } : Jvm.MethodName) ∈ j_W := j_at_in (i := 1195) (by decide +kernel)
theorem j_w1188 : Jvm.Cond.code ({ cls := "java/lang/StringBuilder", name := "append", desc := "(Ljava/lang/String;)Ljava/lang/StringBuilder;" } : Jvm.MethodName) prog_31_method_7_code (2 : Nat) (Option.some (Jvm.ClassFile.FieldType.object "java/lang/StringBuilder")) ∈ j_W := j_at_in (i := 1197) (by decide +kernel)
theorem j_w1187 : Jvm.Cond.selects "java/lang/StringBuilder" ({ cls := "java/lang/StringBuilder", name := "append", desc := "(Ljava/lang/String;)Ljava/lang/StringBuilder;" } : Jvm.MethodName) ({ cls := "java/lang/StringBuilder", name := "append", desc := "(Ljava/lang/String;)Ljava/lang/StringBuilder;" } : Jvm.MethodName) ∈ j_W := j_at_in (i := 1196) (by decide +kernel)
theorem j_w1284 : Jvm.Cond.methodLink "BellTelegraphLaw" (246 : Nat) ({ cls := "java/lang/StringBuilder", name := "append", desc := "(I)Ljava/lang/StringBuilder;" } : Jvm.MethodName) ∈ j_W := j_at_in (i := 1293) (by decide +kernel)
theorem j_w1285 : Jvm.Cond.instanceMethod ({ cls := "java/lang/StringBuilder", name := "append", desc := "(I)Ljava/lang/StringBuilder;" } : Jvm.MethodName) ∈ j_W := j_at_in (i := 1294) (by decide +kernel)
theorem j_w1287 : Jvm.Cond.code ({ cls := "java/lang/StringBuilder", name := "append", desc := "(I)Ljava/lang/StringBuilder;" } : Jvm.MethodName) prog_31_method_15_code (2 : Nat) (Option.some (Jvm.ClassFile.FieldType.object "java/lang/StringBuilder")) ∈ j_W := j_at_in (i := 1296) (by decide +kernel)
theorem j_w1286 : Jvm.Cond.selects "java/lang/StringBuilder" ({ cls := "java/lang/StringBuilder", name := "append", desc := "(I)Ljava/lang/StringBuilder;" } : Jvm.MethodName) ({ cls := "java/lang/StringBuilder", name := "append", desc := "(I)Ljava/lang/StringBuilder;" } : Jvm.MethodName) ∈ j_W := j_at_in (i := 1295) (by decide +kernel)
theorem j_w363 : Jvm.Cond.methodLink "BellTelegraphLaw" (157 : Nat) ({ cls := "BellTelegraphLaw", name := "some", desc := "(II)I" } : Jvm.MethodName) ∈ j_W := j_at_in (i := 372) (by decide +kernel)
theorem j_w364 : Jvm.Cond.static ({ cls := "BellTelegraphLaw", name := "some", desc := "(II)I" } : Jvm.MethodName) ∈ j_W := j_at_in (i := 373) (by decide +kernel)
theorem j_w0 : Jvm.Cond.initialized "BellTelegraphLaw" ∈ j_W := j_at_in (i := 9) (by decide +kernel)
theorem j_w365 : Jvm.Cond.code ({ cls := "BellTelegraphLaw", name := "some", desc := "(II)I" } : Jvm.MethodName) method_3_code (3 : Nat) (Option.some Jvm.ClassFile.FieldType.int) ∈ j_W := j_at_in (i := 374) (by decide +kernel)
theorem j_w1155 : Jvm.Cond.instantiable "java/lang/StringBuilder" (4 : Nat) ∈ j_W := j_at_in (i := 1164) (by decide +kernel)
theorem dj_some_0 : decode jc_some 0 = .ok (.iload_n 0, 1) := by decide +kernel
theorem dj_some_1 : decode jc_some 1 = .ok (.iload_n 1, 1) := by decide +kernel
theorem dj_some_2 : decode jc_some 2 = .ok (.irem, 1) := by decide +kernel
theorem dj_some_3 : decode jc_some 3 = .ok (.istore_n 2, 1) := by decide +kernel
theorem dj_some_4 : decode jc_some 4 = .ok (.iload_n 2, 1) := by decide +kernel
theorem dj_some_5 : decode jc_some 5 = .ok (.ifCond .ge 9, 3) := by decide +kernel
theorem dj_some_14 : decode jc_some 14 = .ok (.iload_n 2, 1) := by decide +kernel
theorem dj_some_15 : decode jc_some 15 = .ok (.ireturn, 1) := by decide +kernel
theorem dj_some_8 : decode jc_some 8 = .ok (.iload_n 2, 1) := by decide +kernel
theorem dj_some_9 : decode jc_some 9 = .ok (.iload_n 1, 1) := by decide +kernel
theorem dj_some_10 : decode jc_some 10 = .ok (.iadd, 1) := by decide +kernel
theorem dj_some_11 : decode jc_some 11 = .ok (.goto 4, 3) := by decide +kernel
theorem j_ldcw0 {p : Program} {l : Launch} {e : Env} {R : Room} {s : State} {m : MethodId} {args : Array Value} {below : List Frame} {meth : Method} {c : Code} {T : State} {locs : List Loc} {cells slots : Nat}
    (X : Stand p l e R s m args below meth c T locs cells slots) (hexec : p.tables.exec = Jvm.exec) {own text : String} {index : Nat} {a : Addr} (hown : s.vm.findClass own = some m.cls)
    (hconst : (Cond.stringRef own index text).before args s = true) (hev : (Term.string own index).eval args s none [] s = some (.ref a)) {g : JFrame} (hg : g.method = m) (hdg : decode c.code g.pc = .ok (.ldc_w index, 3)) :
    ∀ target, Steps p.tables e below (T.setTop { g with pc := g.pc + 3, stack := .ref a :: g.stack }) target → Steps p.tables e below (T.setTop g) target := by
  obtain ⟨k, cf, i, a', hk, hcf, hcp, -, hr, hev'⟩ := Cond.stringRef_spec hown hconst
  cases hev.symm.trans hev'
  obtain ⟨k', hk', he⟩ := X.warmed.alike.2.2 _ _ hk
  have hr' : k'.resolved[index]? = some (some (.string a)) := by
    rcases X.warmed.entry hk hk' index with h | ⟨h, -⟩
    · rw [h]; exact hr
    · rw [hr] at h; cases h
  intro target hrest
  subst hg
  jvm_step X.here [hexec, hdg, ldc_w.wp_string (e := e) (s := T) (f := g) X.here.top hk' (by rw [he]; exact hcf) hcp hr']
  exact hrest
/-- the stage of a text: t stands in the StringBuilder -/
def jStg (D : va_G) (cA : ClassId) (b d : Nat) (t : List Nat) (U : State) (H : Heap) : Prop := ∃ f : Nat → Int32, jB D cA b d t.length f U H ∧ ∀ j, j < t.length → f j = nI (t.getD j 0)
theorem mj_some (l : Launch) {u0 : State} {H0 : Heap} {x : Int32} {n : Nat} (h0 : 0 < n) (hn : n < 1000) : jM l jy_some jc_some 3 jr_some 0 0 0 0 u0 H0 [.int x, .int (nI n)] jNo (fun v H => v = some (.int (am_mo x (nI n))) ∧ H = H0) := by
  refine jM.of (by decide +kernel) (Nat.le_of_ble_eq_true rfl) ?_
  rintro p e s m below meth c ls ⟨hx, hb, hr, hml, hts, hown, hlk, hal, rfl⟩ hl
  have hl : lv_has ls 3 [(0, .int x), (1, .int (nI n))] := hl
  refine lv_iload_n hx hb dj_some_0 rfl (lv_at hl 0 rfl) ?_
  refine lv_iload_n hx hb dj_some_1 rfl (lv_at hl 1 rfl) ?_
  refine lv_irem hx hb dj_some_2 (nI_ne0 h0 (by omega)) ?_
  refine lv_istore_n (lv' := [(2, .int (x - x / nI n * nI n)), (0, .int x), (1, .int (nI n))]) hx hb dj_some_3 rfl hl (by decide) rfl (fun ls hl => ?_)
  refine lv_iload_n hx hb dj_some_4 rfl (lv_at hl 0 rfl) ?_
  refine lv_if_ge (tgt := 14) hx hb dj_some_5 (by decide) (fun q => ?_) (fun q => ?_)
  · refine lv_iload_n hx hb dj_some_14 rfl (lv_at hl 0 rfl) ?_
    exact jret_i hx hb hr rfl hlk ⟨by unfold am_mo; rw [if_neg (Int32.not_lt.mpr q)], rfl⟩ j_nil (Nat.le_refl _) (Nat.le_refl _) dj_some_15
  · refine lv_iload_n hx hb dj_some_8 rfl (lv_at hl 0 rfl) ?_
    refine lv_iload_n hx hb dj_some_9 rfl (lv_at hl 2 rfl) ?_
    refine lv_iadd hx hb dj_some_10 ?_
    refine lv_goto (tgt := 15) hx hb dj_some_11 (by decide) ?_
    exact jret_i hx hb hr rfl hlk ⟨by unfold am_mo; rw [if_pos (Int32.not_le.mp q)], rfl⟩ j_nil (Nat.le_refl _) (Nat.le_refl _) dj_some_15
section JG
variable {p : Program} {l : Launch} {e : Env} {R : Room} {s : State} {m : MethodId} {args : Array Value} {below : List Frame} {meth : Method} {c : Code} {H : Heap} {locs : List Loc} {cells slots : Nat} {Q : State → Prop} {pc : Nat} {ls : Array Slot} {cc : ByteArray} {rest : List Value} {D : va_G} {cA : ClassId} {b d : Nat} {t : List Nat}
theorem j_ldcw {own tx : String} {index q : Nat} (hexec : p.tables.exec = Jvm.exec) (hb : c.code = cc) (hown : s.vm.findClass own = some m.cls) (hZ : vk_R own index tx q s) (hdg : decode cc pc = .ok (.ldc_w index, 3))
    (k : W p l e R s m args below meth c H locs cells slots Q (F0 m (pc + 3) ls (.ref q :: rest))) : W p l e R s m args below meth c H locs cells slots Q (F0 m pc ls rest) := by
  intro T hT X
  obtain ⟨t, a1, b1⟩ := k T hT X
  exact ⟨t, j_ldcw0 X hexec hown (text := tx) (a := q) hZ.1 hZ.2 (g := F0 m pc ls rest) rfl (by rw [hb]; exact hdg) t a1, b1⟩
theorem jg_str {a z : Nat} {w : List Nat} (hx : p.tables.exec = Jvm.exec) (hb : c.code = cc) (hml : c.maxLocals = ls.size) (hown : s.vm.findClass "BellTelegraphLaw" = some m.cls) (hts : ∀ w ∈ j_W, w.before args s = true)
    (hg : jStg D cA b d t s H) (hs : jStr a z w.length (fun j => nI (w.getD j 0)) (jA b d) s H) (h16 : t.length + w.length ≤ 16) (h128 : ∀ j, j < w.length → w.getD j 0 < 128)
    (hfr : 5 ≤ R.frames) (hlo : 113 ≤ R.locals) (hf : cells ≤ R.cells ∧ slots ≤ R.slots) (hW : (rest.map fun v => v.category).sum ≤ 8) (hdg : decode cc pc = .ok (.invokevirtual 243, 3))
    (kk : ∀ (H1 : Heap) (L : List Loc), jStg D cA b d (t ++ w) s H1 → va_S (jA b d) H H1 [] → (∀ q ∈ L, jA b d q.base) → W p l e R s m args below meth c H1 (locs ++ L) cells slots Q (F0 m (pc + 3) ls (.ref b :: rest))) :
    W p l e R s m args below meth c H locs cells slots Q (F0 m pc ls (.ref a :: .ref b :: rest)) := by
  obtain ⟨f, hB, ht⟩ := hg
  obtain ⟨cb, g5, g6, g7, -⟩ := hB.cell
  refine jV (C := "java/lang/StringBuilder") (al := [.ref a]) (rest := rest) (k := 1) (ix := 243) (own := "BellTelegraphLaw") (mj_bas l (u0 := s) (H0 := H) (t := fun j => w.getD j 0) hB hs h16 h128) hx hb hml hown hts (hts _ j_w1185) j_w1186 j_w29 j_w1188 j_w1187 (by decide) (by decide +kernel) rfl g5 g6 g7 hfr hlo ⟨hf.1, hf.2⟩ hW hdg ?_
  rintro v H1 L ⟨rfl, h1, h2⟩ hL
  refine kk H1 L ⟨va_cpy (fun j => nI (w.getD j 0)) f 0 t.length w.length, ?_, fun j hj => ?_⟩ h2 hL
  · rw [List.length_append]
    exact hB.to h1 h2
  · rw [List.length_append] at hj
    by_cases hj2 : j < t.length
    · rw [pk_cpy_out (Or.inl hj2), ht j hj2, List.getD_eq_getElem?_getD, List.getD_eq_getElem?_getD, List.getElem?_append_left hj2]
    · rw [pk_cpy_in (Nat.le_of_not_lt hj2) (by omega), List.getD_eq_getElem?_getD, List.getD_eq_getElem?_getD, List.getElem?_append_right (Nat.le_of_not_lt hj2), Nat.zero_add]
theorem jg_int {q1 q2 v : Nat} (hx : p.tables.exec = Jvm.exec) (hb : c.code = cc) (hml : c.maxLocals = ls.size) (hown : s.vm.findClass "BellTelegraphLaw" = some m.cls) (hts : ∀ w ∈ j_W, w.before args s = true)
    (hg : jStg D cA b d t s H) (hT : jTb q1 q2 (jA b d) s H) (hv : v < 100) (h16 : t.length + jdg v ≤ 16)
    (hfr : 5 ≤ R.frames) (hlo : 113 ≤ R.locals) (hf : cells ≤ R.cells ∧ slots ≤ R.slots) (hW : (rest.map fun v => v.category).sum ≤ 8) (hdg : decode cc pc = .ok (.invokevirtual 246, 3))
    (kk : ∀ (H1 : Heap) (L : List Loc), jStg D cA b d (t ++ am_d10 v) s H1 → va_S (jA b d) H H1 [] → (∀ q ∈ L, jA b d q.base) → W p l e R s m args below meth c H1 (locs ++ L) cells slots Q (F0 m (pc + 3) ls (.ref b :: rest))) :
    W p l e R s m args below meth c H locs cells slots Q (F0 m pc ls (.int (nI v) :: .ref b :: rest)) := by
  obtain ⟨f, hB, ht⟩ := hg
  obtain ⟨cb, g5, g6, g7, -⟩ := hB.cell
  refine jV (C := "java/lang/StringBuilder") (al := [.int (nI v)]) (rest := rest) (k := 1) (ix := 246) (own := "BellTelegraphLaw") (mj_bai l (u0 := s) (H0 := H) hB hT hv h16) hx hb hml hown hts (hts _ j_w1284) j_w1285 j_w29 j_w1287 j_w1286 (by decide) (by decide +kernel) rfl g5 g6 g7 (by omega) (by omega) ⟨hf.1, hf.2⟩ hW hdg ?_
  rintro r H1 L ⟨rfl, h1, h2⟩ hL
  refine kk H1 L ⟨jdf f t.length v, ?_, fun j hj => ?_⟩ h2 hL
  · have e : (t ++ am_d10 v).length = t.length + jdg v := by
      rw [List.length_append]
      unfold am_d10 jdg
      split <;> rfl
    rw [e]
    exact hB.to h1 h2
  · by_cases h10 : v < 10
    · have e1 : am_d10 v = [48 + v] := if_pos h10
      have e2 : jdf f t.length v = upd f t.length (nI (48 + v)) := if_pos h10
      rw [e1] at hj ⊢
      rw [e2]
      rw [List.length_append] at hj
      have hj : j < t.length + 1 := hj
      by_cases hj2 : j < t.length
      · rw [pk_un (Nat.ne_of_lt hj2), ht j hj2, List.getD_eq_getElem?_getD, List.getD_eq_getElem?_getD, List.getElem?_append_left hj2]
      · obtain rfl : j = t.length := by omega
        rw [pk_us, List.getD_eq_getElem?_getD, List.getElem?_append_right (Nat.le_refl _), Nat.sub_self]
        rfl
    · have e1 : am_d10 v = [48 + v / 10, 48 + v % 10] := if_neg h10
      have e2 : jdf f t.length v = upd (upd f (t.length + 1) (nI (48 + v % 10))) t.length (nI (48 + v / 10)) := if_neg h10
      rw [e1] at hj ⊢
      rw [e2]
      rw [List.length_append] at hj
      have hj : j < t.length + 2 := hj
      by_cases hj2 : j < t.length
      · rw [pk_un (Nat.ne_of_lt hj2), pk_un (by omega), ht j hj2, List.getD_eq_getElem?_getD, List.getD_eq_getElem?_getD, List.getElem?_append_left hj2]
      · have hj3 : j = t.length ∨ j = t.length + 1 := by omega
        rcases hj3 with hj3 | hj3
        · rw [hj3, pk_us, List.getD_eq_getElem?_getD, List.getElem?_append_right (Nat.le_refl _), Nat.sub_self]
          rfl
        · rw [hj3, pk_un (by omega), pk_us, List.getD_eq_getElem?_getD, List.getElem?_append_right (show t.length ≤ t.length + 1 by omega), Nat.add_sub_cancel_left]
          rfl
end JG
section JCat
variable {p : Program} {l : Launch} {e : Env} {R : Room} {s : State} {m : MethodId} {args : Array Value} {below : List Frame} {meth : Method} {c : Code} {Q : State → Prop} {G : am_Γ} {z : Nat} {X0 : am_X} {pc : Nat} {ls : am_S} {st : List am_V} {M : am_M} {X : am_X} {H Hs : Heap} {locs : List Loc} {cells slots : Nat} {lsc : Array Slot} {rest : List Value} {D : va_G} {cA : ClassId} {b d : Nat} {t : List Nat}
theorem ja_128 : ∀ k, k < 9 → ∀ j, j < (am_lit k).length → (am_lit k).getD j 0 < 128 := by decide +kernel
theorem ja_str {k : Nat} (C : am_Cx p l s m args meth c G z) (hnc : am_Nc G s) (hS : va_S (am_A G) s.heap H locs) (hk : k < 9) (hb : am_b0 G ≤ b) (hd : am_b0 G ≤ d) : ∃ a z' : Nat, vk_R RL (am_six k) (am_stx k) a s ∧ jStr a z' (am_lit k).length (fun j => nI ((am_lit k).getD j 0)) (jA b d) s H := by
  obtain ⟨hx, hb', hml, hown, hts, hK, -⟩ := C
  obtain ⟨a, z', h1, ⟨h2, h3, -⟩, h4⟩ := hnc.2.1 k hk
  have hlt := h4.lt
  have hJ := hnc.2.2.1.kept hS.2.1
  have h5 := h4.kept (hS.2.1 a hlt.1 (by show ¬ am_b0 G ≤ a; omega)) (hS.2.1 z' hlt.2 (by show ¬ am_b0 G ≤ z'; omega))
  refine ⟨a, z', h1, j_of_so (j_hts hts hnc.2.2.2) hK (hJ.1.narrow (B := jA b d) (fun q h => ?_)) h5 (fun h => ?_) (fun h => ?_)⟩
  · show am_b0 G ≤ q
    rcases h with h | h <;> omega
  · rcases h with h | h <;> omega
  · rcases h with h | h <;> omega
theorem ja_tab (hnc : am_Nc G s) (hS : va_S (am_A G) s.heap H locs) (hb : am_b0 G ≤ b) (hd : am_b0 G ≤ d) : ∃ q1 q2 : Nat, jTb q1 q2 (jA b d) s H := by
  have hJ := hnc.2.2.1.kept hS.2.1
  obtain ⟨q1, t1, t2⟩ := hJ.2.1 0 (by decide)
  obtain ⟨q2, t3, t4⟩ := hJ.2.1 1 (by decide)
  have hn : ∀ q, jA b d q → am_A0 G q := fun q h => by
    show am_b0 G ≤ q
    rcases h with h | h <;> omega
  exact ⟨q1, q2, ⟨t1.narrow hn, t2.narrow hn⟩, t3.narrow hn, t4.narrow hn⟩
theorem ja_S {H1 : Heap} {L : List Loc} (hS : va_S (am_A G) s.heap H locs) (hF : va_S (jNw Hs.size) Hs H []) (hz : am_b0 G ≤ Hs.size) (hb : Hs.size ≤ b) (hd : Hs.size ≤ d) (g2 : va_S (jA b d) H H1 []) (g3 : ∀ q ∈ L, jA b d q.base) : va_S (am_A G) s.heap H1 (locs ++ L) ∧ va_S (jNw Hs.size) Hs H1 [] := by
  have hn : ∀ q, jA b d q → Hs.size ≤ q := fun q h => by rcases h with h | h <;> omega
  refine ⟨⟨Nat.le_trans hS.1 g2.1, fun q q1 q2 => (g2.2.1 q (Nat.lt_of_lt_of_le q1 hS.1) (fun h => q2 (Nat.le_trans hz (hn q h)))).trans (hS.2.1 q q1 q2), fun q hq => ?_⟩, Nat.le_trans hF.1 g2.1, fun q q1 q2 => (g2.2.1 q (Nat.lt_of_lt_of_le q1 hF.1) (fun h => q2 (hn q h))).trans (hF.2.1 q q1 q2), fun q hq => absurd hq List.not_mem_nil⟩
  rcases List.mem_append.mp hq with h | h
  · exact hS.2.2 q h
  · exact Nat.le_trans hz (hn _ (g3 q h))
theorem ja_app {k pc2 : Nat} (C : am_Cx p l s m args meth c G am_chz) (hnc : am_Nc G s) (hml : c.maxLocals = lsc.size) (hg : jStg D cA b d t s H) (hS : va_S (am_A G) s.heap H locs) (hF : va_S (jNw Hs.size) Hs H []) (hz : am_b0 G ≤ Hs.size) (hb : Hs.size ≤ b) (hd : Hs.size ≤ d) (hk : k < 9) (h16 : t.length + (am_lit k).length ≤ 16)
    (hfr : 5 ≤ R.frames) (hlo : 113 ≤ R.locals) (hf : cells ≤ R.cells ∧ slots ≤ R.slots) (hW : (rest.map fun v => v.category).sum ≤ 8)
    (hld : ∀ a, vk_R RL (am_six k) (am_stx k) a s → W p l e R s m args below meth c H locs cells slots Q (F0 m pc2 lsc (.ref a :: .ref b :: rest)) → W p l e R s m args below meth c H locs cells slots Q (F0 m pc lsc (.ref b :: rest)))
    (dg : decode (am_by am_chz) pc2 = .ok (.invokevirtual 243, 3))
    (kk : ∀ (H1 : Heap) (L1 : List Loc), jStg D cA b d (t ++ am_lit k) s H1 → va_S (am_A G) s.heap H1 L1 → va_S (jNw Hs.size) Hs H1 [] → W p l e R s m args below meth c H1 L1 cells slots Q (F0 m (pc2 + 3) lsc (.ref b :: rest))) :
    W p l e R s m args below meth c H locs cells slots Q (F0 m pc lsc (.ref b :: rest)) := by
  obtain ⟨a, z', h1, h2⟩ := ja_str C hnc hS hk (Nat.le_trans hz hb) (Nat.le_trans hz hd)
  obtain ⟨hx, hbb, hml', hown, hts, -⟩ := C
  refine hld a h1 (jg_str hx hbb hml hown (j_hts hts hnc.2.2.2) hg h2 h16 (ja_128 k hk) hfr hlo hf hW dg (fun H1 L g1 g2 g3 => ?_))
  obtain ⟨k1, k2⟩ := ja_S hS hF hz hb hd g2 g3
  exact kk H1 (locs ++ L) g1 k1 k2
theorem ja_num {n pc2 : Nat} {y : Int32} (C : am_Cx p l s m args meth c G am_chz) (hnc : am_Nc G s) (hml : c.maxLocals = lsc.size) (hg : jStg D cA b d t s H) (hS : va_S (am_A G) s.heap H locs) (hF : va_S (jNw Hs.size) Hs H []) (hz : am_b0 G ≤ Hs.size) (hb : Hs.size ≤ b) (hd : Hs.size ≤ d) (h0 : 0 < n) (hn : n < 100) (h16 : t.length + (if n ≤ 10 then 1 else 2) ≤ 16)
    (hfr : 5 ≤ R.frames) (hlo : 113 ≤ R.locals) (hf : cells ≤ R.cells ∧ slots ≤ R.slots) (hW : ((Value.ref b :: rest).map fun v => v.category).sum ≤ 8)
    (dg1 : decode (am_by am_chz) pc = .ok (.invokestatic 157, 3)) (e2 : pc + 3 = pc2) (dg2 : decode (am_by am_chz) pc2 = .ok (.invokevirtual 246, 3))
    (kk : ∀ (H1 : Heap) (L1 : List Loc), jStg D cA b d (t ++ am_d10 (am_mo y (nI n)).toNatClampNeg) s H1 → va_S (am_A G) s.heap H1 L1 → va_S (jNw Hs.size) Hs H1 [] → W p l e R s m args below meth c H1 L1 cells slots Q (F0 m (pc2 + 3) lsc (.ref b :: rest))) :
    W p l e R s m args below meth c H locs cells slots Q (F0 m pc lsc (.int (nI n) :: .int y :: .ref b :: rest)) := by
  obtain ⟨q1, q2, hT⟩ := ja_tab hnc hS (Nat.le_trans hz hb) (Nat.le_trans hz hd)
  obtain ⟨hx, hbb, hml', hown, hts, -⟩ := C
  obtain ⟨v, hv, ev⟩ := rem_b (x := y) h0 (show n < 1000 by omega)
  have em : am_mo y (nI n) = nI v := ev
  rw [em, nI_clamp (by omega)] at kk
  refine jS (av := [.int y, .int (nI n)]) (rest := .ref b :: rest) (k := 2) (ix := 157) (own := "BellTelegraphLaw") (mj_some l (u0 := s) (H0 := H) (x := y) h0 (show n < 1000 by omega)) hx hbb hml hown (j_hts hts hnc.2.2.2) (j_hts hts hnc.2.2.2 _ j_w363) j_w364 j_w0 j_w365 (by decide) (by decide +kernel) rfl (by omega) (by omega) ⟨hf.1, hf.2⟩ hW dg1 ?_
  rintro r H1 L ⟨rfl, rfl⟩ hL
  rw [em, e2]
  have hW2 : (rest.map fun v => v.category).sum ≤ 8 := by
    have h9 : (Value.ref b).category + (rest.map fun v => v.category).sum ≤ 8 := hW
    omega
  refine jg_int hx hbb hml hown (j_hts hts hnc.2.2.2) hg hT (show v < 100 by omega) ?_ hfr hlo hf hW2 dg2 (fun H2 L2 g1 g2 g3 => ?_)
  · have h7 : jdg v ≤ if n ≤ 10 then 1 else 2 := by
      unfold jdg
      split <;> split <;> omega
    omega
  · obtain ⟨k1, k2⟩ := ja_S (j_S_no hS hL) hF hz hb hd g2 g3
    exact kk H2 _ g1 k1 k2
/-- the classes of a StringBuilder and of a String, as the tables number them -/
theorem ja_K (C : am_Cx p l s m args meth c G z) (hnc : am_Nc G s) : ∃ D : va_G, va_K D jcl [(G.2.2.2.1 3, .byte)] s ∧ D.1 1 = G.2.2.1.1 9 ∧ D.2 1 0 = G.2.2.1.2 9 0 ∧ D.2 1 1 = G.2.2.1.2 9 1 := by
  obtain ⟨hx, hb', hml, hown, hts, hK, -⟩ := C
  have hj := j_hts hts hnc.2.2.2
  obtain ⟨c0, i0, k0⟩ := u_known (T := TJ4) (N := 4) hj j_bw (hj _ j_w1155)
  obtain ⟨c1, i1, k1⟩ := u_known (T := TJ0) (N := 4) hj j_tw (hj _ j_w659)
  obtain ⟨p1, p2, -⟩ := hK.1 9 _ (am_cl_at 9 (by decide))
  obtain ⟨cf3, kf3, fi3, fd3, y1, y2⟩ := p1 0 (by decide)
  obtain ⟨cf4, kf4, fi4, fd4, z1, z2⟩ := p1 1 (by decide)
  obtain ⟨cf5, kf5, fi5, fd5, g1, g2⟩ := k1.1 0 (by decide)
  obtain ⟨cf6, kf6, fi6, fd6, w1, w2⟩ := k1.1 1 (by decide)
  refine ⟨(fun c => if c = 0 then c0 else c1, fun c => if c = 0 then i0 else i1), ⟨fun c q hq => ?_, fun k q hq => ?_⟩, ?_, ?_, ?_⟩
  · match c, hq with
    | 0, hq => cases hq; exact k0
    | 1, hq => cases hq; exact k1
    | k + 2, hq => simp at hq
  · match k, hq with
    | 0, hq => cases hq; exact hK.2 3 _ rfl
    | k + 1, hq => simp at hq
  · exact Option.some.inj (k1.2.1.symm.trans p2)
  · cases y1.symm.trans g1
    exact g2.symm.trans y2
  · cases z1.symm.trans w1
    exact w2.symm.trans z2
/-- the String that came out, in the words of the relation -/
theorem ja_so {a x n : Nat} {f' : Nat → Int32} {T : List Nat} (e1 : D.1 1 = G.2.2.1.1 9) (e2 : D.2 1 0 = G.2.2.1.2 9 0) (e3 : D.2 1 1 = G.2.2.1.2 9 1) (hP : va_P D jcl [(a, .inr (1, [.ref x, .int 0, .int 0, .int 0])), (x, .inl (G.2.2.2.1 3, n, .inl f'))] H) (hn : T.length = n) (hf : ∀ j, j < n → f' j = nI (T.getD j 0)) : am_so G a x T H := by
  obtain ⟨r, h1, cell, q1, q2, q3, q4⟩ := hP 0 _ rfl
  have hr : r = (RJ0, TJ0, 4) := (Option.some.inj h1).symm
  subst hr
  have h2 : H[x]? = some (arrV (G.2.2.2.1 3) n (fun j => .int (f' j))) := hP 1 _ rfl
  refine ⟨cell, arrV (G.2.2.2.1 3) n (fun j => .int (f' j)), ⟨q1, by rw [← e1]; exact q2, (by rw [q3]; intro h; cases h), (by rw [q3]; rfl), by rw [← e2]; exact q4 0 (by decide), by rw [← e3]; exact q4 1 (by decide)⟩, h2, rfl, (fun h => by cases h), rfl, by rw [arrV_size, hn], fun j hj => ?_⟩
  rw [arrV_read _ _ (by omega), hf j (by omega)]
end JCat
