/-! WHAT GOES BESIDE: bits of floats, a String's length, a String's letter -/
theorem j_w661 : Jvm.Cond.laysFinal "java/lang/String" "java/lang/String" "value" "[B" ∈ j_W := j_at_in (i := 670) (by decide +kernel)
theorem j_w663 : Jvm.Cond.laysFinal "java/lang/String" "java/lang/String" "coder" "B" ∈ j_W := j_at_in (i := 672) (by decide +kernel)
theorem j_w1067 : Jvm.Cond.static ({ cls := "java/lang/Double", name := "doubleToLongBits", desc := "(D)J" } : Jvm.MethodName) ∈ j_W := j_at_in (i := 1076) (by decide +kernel)
theorem j_w1068 : Jvm.Cond.code ({ cls := "java/lang/Double", name := "doubleToLongBits", desc := "(D)J" } : Jvm.MethodName) prog_20_method_23_code (2 : Nat) (Option.some Jvm.ClassFile.FieldType.long) ∈ j_W := j_at_in (i := 1077) (by decide +kernel)
theorem j_w1085 : Jvm.Cond.static ({ cls := "java/lang/Float", name := "floatToIntBits", desc := "(F)I" } : Jvm.MethodName) ∈ j_W := j_at_in (i := 1094) (by decide +kernel)
theorem j_w1086 : Jvm.Cond.code ({ cls := "java/lang/Float", name := "floatToIntBits", desc := "(F)I" } : Jvm.MethodName) prog_22_method_24_code (1 : Nat) (Option.some Jvm.ClassFile.FieldType.int) ∈ j_W := j_at_in (i := 1095) (by decide +kernel)
theorem j_w1005 : Jvm.Cond.instanceMethod ({ cls := "java/lang/String", name := "charAt", desc := "(I)C" } : Jvm.MethodName) ∈ j_W := j_at_in (i := 1014) (by decide +kernel)
theorem j_w1007 : Jvm.Cond.code ({ cls := "java/lang/String", name := "charAt", desc := "(I)C" } : Jvm.MethodName) prog_30_method_56_code (2 : Nat) (Option.some Jvm.ClassFile.FieldType.char) ∈ j_W := j_at_in (i := 1016) (by decide +kernel)
theorem j_w1006 : Jvm.Cond.selects "java/lang/String" ({ cls := "java/lang/String", name := "charAt", desc := "(I)C" } : Jvm.MethodName) ({ cls := "java/lang/String", name := "charAt", desc := "(I)C" } : Jvm.MethodName) ∈ j_W := j_at_in (i := 1015) (by decide +kernel)
theorem j_S_no {A0 : Nat → Prop} {H0 H : Heap} {locs L : List Loc} (hS : va_S A0 H0 H locs) (hL : ∀ q ∈ L, jNo q.base) : va_S A0 H0 H (locs ++ L) :=
  ⟨hS.1, hS.2.1, fun q hq => (List.mem_append.mp hq).elim (hS.2.2 q) (fun h => (hL q h).elim)⟩
section JSide
variable {p : Program} {l : Launch} {e : Env} {R : Room} {s : State} {m : MethodId} {args : Array Value} {below : List Frame} {meth : Method} {c : Code} {Q : State → Prop} {G : am_Γ} {z : Nat} {X0 : am_X} {pc : Nat} {ls : am_S} {st : List am_V} {M : am_M} {X : am_X} {H : Heap}
theorem j_ml {o ix k y : Nat} (hm : am_ml o ix = some (k, y)) : ∃ i, am_mlw (o, ix, k, y) i = true := am_al2_in am_ml_ok _ (am_look_in hm)
theorem j_hts (hts : ∀ w ∈ am_W, w.before args s = true) (hl : am_Sl s) : ∀ w ∈ j_W, w.before args s = true := fun w h => (List.mem_append.mp h).elim (fun q => hts w (j_W_am q)) (fun q => va_tabs (j_X_tabs w q) rfl (hl w q))
/-- a String of the relation, as the JDK's contracts want her -/
theorem j_of_so {a b : Nat} {t : List Nat} {A : Nat → Prop} (hts : ∀ w ∈ j_W, w.before args s = true) (hK : va_K G.2.2.1 am_cl (am_tys G) s) (hZ : va_Z "java/lang/String" "COMPACT_STRINGS" "Z" (.int 1) A s H) (h : am_so G a b t H) (ha : ¬ A a) (hb : ¬ A b) : jStr a b t.length (fun j => nI (t.getD j 0)) A s H := by
  obtain ⟨sC, SA, ⟨q1, q2, q3, q4, q5, q6⟩, r1, r2, r3, r4, r5, r6⟩ := h
  obtain ⟨p1, p2, -⟩ := hK.1 9 _ (am_cl_at 9 (by decide))
  obtain ⟨cf3, k3, i3, f3, y1, y2⟩ := p1 0 (by decide)
  obtain ⟨cf4, k4, i4, f4, z1, z2⟩ := p1 1 (by decide)
  obtain ⟨-, -, cV, kV, iV, fV, -, -, g3, g4, -⟩ := Cond.laysFinal_spec (hts _ j_w661)
  obtain ⟨-, -, cW, kW, iW, fW, -, -, e3, e4, -⟩ := Cond.laysFinal_spec (hts _ j_w663)
  cases y1.symm.trans g3
  cases z1.symm.trans e3
  obtain ⟨-, k0, hk0, cm0, hkk0⟩ := (hK.2 3 _ rfl).1 0 (fun _ => .int 0)
  refine ⟨hZ, ⟨_, _, _, _, sC, g3, g4, q1, q3, ?_, ha⟩, ⟨_, _, _, _, sC, e3, e4, q1, q3, ?_, ha⟩, ⟨SA, r1, ⟨fun k hk => ?_, k0, ?_, cm0, hkk0⟩, r3, Nat.le_of_eq r5.symm, by rw [r5], r6, hb⟩, sC, q1, q4, ?_, ha⟩
  · first | (rw [y2]; exact q5) | (rw [← y2]; exact q5)
  · first | (rw [z2]; exact q6) | (rw [← z2]; exact q6)
  · rw [hk] at r4; cases r4
  · rw [r2]; exact hk0
  · rw [q2]; exact p2
theorem am_s_dbl {d ix y : Nat} {q : am_N} (C : am_Cx p l s m args meth c G z) (hnc : am_Nc G s) (hm : am_ml (am_own z) ix = some (8, y)) (dg : decode (am_by z) pc = .ok (.invokestatic ix, 3)) (hR : 27 ≤ R.frames ∧ 751 ≤ R.locals) (hle : am_le X0 X) (h : am_inv (am_ev d) z 8 y pc ls st M X (fun a b c d e => some (.inl (a, b, c, d, e))) (fun r => some (.inr r)) = some q) (hrm : (am_nx q).2.2.1 - X0.2.2.1 ≤ R.cells ∧ (am_nx q).2.2.2.1 - X0.2.2.2.1 ≤ R.slots) (hq : ∀ w, q = .inl w → am_Sm p l e R s m args below meth c Q G z X0 w) : am_Sm p l e R s m args below meth c Q G z X0 (pc, ls, st, M, X) := by
  obtain ⟨i, hi⟩ := j_ml hm
  simp only [am_mlw, Bool.and_eq_true] at hi
  obtain ⟨hx, hb, hml, hown, hts, -⟩ := C
  simp only [am_inv] at h
  intro H locs lsc hH hS hl
  obtain ⟨x, rest, rfl, h1⟩ := am_popD_i h
  obtain ⟨h4, h2⟩ := am_sm_i h1
  obtain ⟨hn, h3⟩ := am_if_i h2
  cases h3
  refine jS (av := [.double x]) (rest := rest.map (am_tv G)) (k := 1) (ix := ix) (own := am_cR (am_own z)) (mj_dbl l (u0 := s) (H0 := H) hn) hx hb (by rw [hml]; exact hl.1.1.symm) hown (j_hts hts hnc.2.2.2) (hts _ (am_at_in hi.2)) j_w1067 j_w26 j_w1068 (by decide) (by decide +kernel) rfl (by omega) (by omega) ⟨hrm.1, hrm.2⟩ (am_cat rest h4) dg ?_
  rintro v H1 L ⟨rfl, rfl⟩ hL
  exact hq _ rfl H1 (locs ++ L) lsc hH (j_S_no hS hL) hl
theorem am_s_flt {d ix y : Nat} {q : am_N} (C : am_Cx p l s m args meth c G z) (hnc : am_Nc G s) (hm : am_ml (am_own z) ix = some (9, y)) (dg : decode (am_by z) pc = .ok (.invokestatic ix, 3)) (hR : 27 ≤ R.frames ∧ 751 ≤ R.locals) (hle : am_le X0 X) (h : am_inv (am_ev d) z 9 y pc ls st M X (fun a b c d e => some (.inl (a, b, c, d, e))) (fun r => some (.inr r)) = some q) (hrm : (am_nx q).2.2.1 - X0.2.2.1 ≤ R.cells ∧ (am_nx q).2.2.2.1 - X0.2.2.2.1 ≤ R.slots) (hq : ∀ w, q = .inl w → am_Sm p l e R s m args below meth c Q G z X0 w) : am_Sm p l e R s m args below meth c Q G z X0 (pc, ls, st, M, X) := by
  obtain ⟨i, hi⟩ := j_ml hm
  simp only [am_mlw, Bool.and_eq_true] at hi
  obtain ⟨hx, hb, hml, hown, hts, -⟩ := C
  simp only [am_inv] at h
  intro H locs lsc hH hS hl
  obtain ⟨x, rest, rfl, h1⟩ := am_popF_i h
  obtain ⟨h4, h2⟩ := am_sm_i h1
  obtain ⟨hn, h3⟩ := am_if_i h2
  cases h3
  refine jS (av := [.float x]) (rest := rest.map (am_tv G)) (k := 1) (ix := ix) (own := am_cR (am_own z)) (mj_flt l (u0 := s) (H0 := H) hn) hx hb (by rw [hml]; exact hl.1.1.symm) hown (j_hts hts hnc.2.2.2) (hts _ (am_at_in hi.2)) j_w1085 j_w27 j_w1086 (by decide) (by decide +kernel) rfl (by omega) (by omega) ⟨hrm.1, hrm.2⟩ (am_cat rest h4) dg ?_
  rintro v H1 L ⟨rfl, rfl⟩ hL
  exact hq _ rfl H1 (locs ++ L) lsc hH (j_S_no hS hL) hl
/-- the String at hand -/
theorem j_hand {t : List Nat} (C : am_Cx p l s m args meth c G z) (hnc : am_Nc G s) (hH : am_HR G M X H) {locs : List Loc} (hS : va_S (am_A G) s.heap H locs) (hT : X.2.2.2.2.2 = some t) : jStr (am_sa G) (am_sb0 G) t.length (fun j => nI (t.getD j 0)) jNo s H ∧ jFm jNo s H ∧ (∀ c ∈ t, c < 128) ∧ t.length ≤ 60 := by
  obtain ⟨hx, hb, hml, hown, hts, hK, -⟩ := C
  obtain ⟨-, h1, h2, h3⟩ := hH.2.2.2.2.2 t hT
  have hJ := hnc.2.2.1.kept hS.2.1
  exact ⟨j_of_so (j_hts hts hnc.2.2.2) hK (hJ.1.narrow (B := jNo) fun _ q => q.elim) h1 id id, hJ.2.2.narrow (B := jNo) fun _ q => q.elim, h2, h3⟩
theorem am_s_sln {d ix y : Nat} {q : am_N} (C : am_Cx p l s m args meth c G z) (hnc : am_Nc G s) (hm : am_ml (am_own z) ix = some (10, y)) (dg : decode (am_by z) pc = .ok (.invokevirtual ix, 3)) (hR : 27 ≤ R.frames ∧ 751 ≤ R.locals) (hle : am_le X0 X) (h : am_inv (am_ev d) z 10 y pc ls st M X (fun a b c d e => some (.inl (a, b, c, d, e))) (fun r => some (.inr r)) = some q) (hrm : (am_nx q).2.2.1 - X0.2.2.1 ≤ R.cells ∧ (am_nx q).2.2.2.1 - X0.2.2.2.1 ≤ R.slots) (hq : ∀ w, q = .inl w → am_Sm p l e R s m args below meth c Q G z X0 w) : am_Sm p l e R s m args below meth c Q G z X0 (pc, ls, st, M, X) := by
  obtain ⟨i, hi⟩ := j_ml hm
  simp only [am_mlw, Bool.and_eq_true] at hi
  have C' := C
  obtain ⟨hx, hb, hml, hown, hts, -⟩ := C
  simp only [am_inv] at h
  intro H locs lsc hH hS hl
  obtain ⟨l0, rest, rfl, h1⟩ := am_popP_i h
  obtain ⟨h4, h2⟩ := am_sm_i h1
  obtain ⟨rfl, h3⟩ := am_if_i h2
  rcases am_o2_i h3 with ⟨t, hT, h5⟩ | ⟨-, h5⟩
  · cases h5
    obtain ⟨hs, -⟩ := j_hand C' hnc hH hS hT
    obtain ⟨-, -, -, -, cell, g1, g2, g3, -⟩ := id hs
    refine jV (C := "java/lang/String") (al := []) (rest := rest.map (am_tv G)) (k := 0) (ix := ix) (own := am_cR (am_own z)) (mj_slen l (u0 := s) (H0 := H) hs) hx hb (by rw [hml]; exact hl.1.1.symm) hown (j_hts hts hnc.2.2.2) (hts _ (am_at_in hi.2)) j_w988 j_w20 j_w990 j_w989 (by decide) (by decide +kernel) rfl g1 g2 g3 (by omega) (by omega) ⟨hrm.1, hrm.2⟩ (am_cat rest h4) dg ?_
    rintro v H1 L ⟨rfl, rfl⟩ hL
    exact hq _ rfl H1 (locs ++ L) lsc hH (j_S_no hS hL) hl
  · cases h5
theorem am_s_sch {d ix y : Nat} {q : am_N} (C : am_Cx p l s m args meth c G z) (hnc : am_Nc G s) (hm : am_ml (am_own z) ix = some (11, y)) (dg : decode (am_by z) pc = .ok (.invokevirtual ix, 3)) (hR : 27 ≤ R.frames ∧ 751 ≤ R.locals) (hle : am_le X0 X) (h : am_inv (am_ev d) z 11 y pc ls st M X (fun a b c d e => some (.inl (a, b, c, d, e))) (fun r => some (.inr r)) = some q) (hrm : (am_nx q).2.2.1 - X0.2.2.1 ≤ R.cells ∧ (am_nx q).2.2.2.1 - X0.2.2.2.1 ≤ R.slots) (hq : ∀ w, q = .inl w → am_Sm p l e R s m args below meth c Q G z X0 w) : am_Sm p l e R s m args below meth c Q G z X0 (pc, ls, st, M, X) := by
  obtain ⟨i, hi⟩ := j_ml hm
  simp only [am_mlw, Bool.and_eq_true] at hi
  have C' := C
  obtain ⟨hx, hb, hml, hown, hts, -⟩ := C
  simp only [am_inv] at h
  intro H locs lsc hH hS hl
  obtain ⟨x, st1, rfl, h0⟩ := am_popI_i h
  obtain ⟨l0, rest, rfl, h1⟩ := am_popP_i h0
  obtain ⟨h4, h2⟩ := am_sm_i h1
  obtain ⟨rfl, h3⟩ := am_if_i h2
  rcases am_o2_i h3 with ⟨t, hT, h5⟩ | ⟨-, h5⟩
  · obtain ⟨hin, h6⟩ := am_if_i h5
    cases h6
    obtain ⟨hs, hF, h128, h60⟩ := j_hand C' hnc hH hS hT
    obtain ⟨-, -, -, -, cell, g1, g2, g3, -⟩ := id hs
    have hlt : x.toNatClampNeg < t.length := Nat.not_le.mp fun q => hin (Or.inr q)
    obtain ⟨n, hn, rfl⟩ := nI_of (fun q => hin (Or.inl q))
    rw [nI_clamp hn] at hlt
    have hc : t.getD n 0 < 128 := by
      rw [List.getD_eq_getElem?_getD, List.getElem?_eq_getElem hlt]
      exact h128 _ (List.getElem_mem hlt)
    refine jV (C := "java/lang/String") (al := [.int (nI n)]) (rest := rest.map (am_tv G)) (k := 1) (ix := ix) (own := am_cR (am_own z)) (mj_sch l (u0 := s) (H0 := H) (t := fun j => t.getD j 0) hs hF hlt (by omega) hc) hx hb (by rw [hml]; exact hl.1.1.symm) hown (j_hts hts hnc.2.2.2) (hts _ (am_at_in hi.2)) j_w1005 j_w20 j_w1007 j_w1006 (by decide) (by decide +kernel) rfl g1 g2 g3 (by omega) (by omega) ⟨hrm.1, hrm.2⟩ (am_cat rest h4) dg ?_
    rintro v H1 L ⟨rfl, rfl⟩ hL
    have k := hq _ rfl H1 (locs ++ L) lsc hH (j_S_no hS hL) hl
    rw [nI_clamp hn] at k
    exact k
  · cases h5
end JSide
