/-! WHAT GOES BESIDE: the call that takes the String, and the two rows that end in it -/
theorem j_w1154 : Jvm.Cond.classLink "BellTelegraphLaw" (238 : Nat) "java/lang/StringBuilder" ∈ j_W := j_at_in (i := 1163) (by decide +kernel)
theorem j_w1156 : Jvm.Cond.methodLink "BellTelegraphLaw" (240 : Nat) ({ cls := "java/lang/StringBuilder", name := "<init>", desc := "()V" } : Jvm.MethodName) ∈ j_W := j_at_in (i := 1165) (by decide +kernel)
theorem j_w1157 : Jvm.Cond.instanceMethod ({ cls := "java/lang/StringBuilder", name := "<init>", desc := "()V" } : Jvm.MethodName) ∈ j_W := j_at_in (i := 1166) (by decide +kernel)
theorem j_w1158 : Jvm.Cond.code ({ cls := "java/lang/StringBuilder", name := "<init>", desc := "()V" } : Jvm.MethodName) prog_31_method_1_code (1 : Nat) (Option.none : Option Jvm.ClassFile.FieldType) ∈ j_W := j_at_in (i := 1167) (by decide +kernel)
theorem j_w1311 : Jvm.Cond.methodLink "BellTelegraphLaw" (253 : Nat) ({ cls := "java/lang/StringBuilder", name := "toString", desc := "()Ljava/lang/String;" } : Jvm.MethodName) ∈ j_W := j_at_in (i := 1320) (by decide +kernel)
theorem j_w1312 : Jvm.Cond.instanceMethod ({ cls := "java/lang/StringBuilder", name := "toString", desc := "()Ljava/lang/String;" } : Jvm.MethodName) ∈ j_W := j_at_in (i := 1321) (by decide +kernel)
theorem j_w1314 : Jvm.Cond.code ({ cls := "java/lang/StringBuilder", name := "toString", desc := "()Ljava/lang/String;" } : Jvm.MethodName) prog_31_method_42_code (1 : Nat) (Option.some (Jvm.ClassFile.FieldType.object "java/lang/String")) ∈ j_W := j_at_in (i := 1323) (by decide +kernel)
theorem j_w1313 : Jvm.Cond.selects "java/lang/StringBuilder" ({ cls := "java/lang/StringBuilder", name := "toString", desc := "()Ljava/lang/String;" } : Jvm.MethodName) ({ cls := "java/lang/StringBuilder", name := "toString", desc := "()Ljava/lang/String;" } : Jvm.MethodName) ∈ j_W := j_at_in (i := 1322) (by decide +kernel)
theorem dch_446 : decode (am_by am_chz) 446 = .ok (.invokestatic 263, 3) := by decide +kernel
theorem dch_324 : decode (am_by am_chz) 324 = .ok (.new 238, 3) := by decide +kernel
theorem dch_327 : decode (am_by am_chz) 327 = .ok (.dup, 1) := by decide +kernel
theorem dch_328 : decode (am_by am_chz) 328 = .ok (.invokespecial 240, 3) := by decide +kernel
theorem dch_331 : decode (am_by am_chz) 331 = .ok (.ldc 241, 2) := by decide +kernel
theorem dch_333 : decode (am_by am_chz) 333 = .ok (.invokevirtual 243, 3) := by decide +kernel
theorem dch_336 : decode (am_by am_chz) 336 = .ok (.iload_n 1, 1) := by decide +kernel
theorem dch_337 : decode (am_by am_chz) 337 = .ok (.iconst 3, 1) := by decide +kernel
theorem dch_338 : decode (am_by am_chz) 338 = .ok (.ishr, 1) := by decide +kernel
theorem dch_339 : decode (am_by am_chz) 339 = .ok (.bipush 12, 2) := by decide +kernel
theorem dch_341 : decode (am_by am_chz) 341 = .ok (.invokestatic 157, 3) := by decide +kernel
theorem dch_344 : decode (am_by am_chz) 344 = .ok (.invokevirtual 246, 3) := by decide +kernel
theorem dch_347 : decode (am_by am_chz) 347 = .ok (.ldc 249, 2) := by decide +kernel
theorem dch_349 : decode (am_by am_chz) 349 = .ok (.invokevirtual 243, 3) := by decide +kernel
theorem dch_352 : decode (am_by am_chz) 352 = .ok (.iload_n 1, 1) := by decide +kernel
theorem dch_353 : decode (am_by am_chz) 353 = .ok (.iconst 5, 1) := by decide +kernel
theorem dch_354 : decode (am_by am_chz) 354 = .ok (.ishr, 1) := by decide +kernel
theorem dch_355 : decode (am_by am_chz) 355 = .ok (.bipush 7, 2) := by decide +kernel
theorem dch_357 : decode (am_by am_chz) 357 = .ok (.invokestatic 157, 3) := by decide +kernel
theorem dch_360 : decode (am_by am_chz) 360 = .ok (.invokevirtual 246, 3) := by decide +kernel
theorem dch_363 : decode (am_by am_chz) 363 = .ok (.ldc 251, 2) := by decide +kernel
theorem dch_365 : decode (am_by am_chz) 365 = .ok (.invokevirtual 243, 3) := by decide +kernel
theorem dch_368 : decode (am_by am_chz) 368 = .ok (.iload_n 1, 1) := by decide +kernel
theorem dch_369 : decode (am_by am_chz) 369 = .ok (.bipush 7, 2) := by decide +kernel
theorem dch_371 : decode (am_by am_chz) 371 = .ok (.ishr, 1) := by decide +kernel
theorem dch_372 : decode (am_by am_chz) 372 = .ok (.bipush 10, 2) := by decide +kernel
theorem dch_374 : decode (am_by am_chz) 374 = .ok (.invokestatic 157, 3) := by decide +kernel
theorem dch_377 : decode (am_by am_chz) 377 = .ok (.invokevirtual 246, 3) := by decide +kernel
theorem dch_380 : decode (am_by am_chz) 380 = .ok (.invokevirtual 253, 3) := by decide +kernel
theorem dch_383 : decode (am_by am_chz) 383 = .ok (.goto 63, 3) := by decide +kernel
theorem dch_386 : decode (am_by am_chz) 386 = .ok (.new 238, 3) := by decide +kernel
theorem dch_389 : decode (am_by am_chz) 389 = .ok (.dup, 1) := by decide +kernel
theorem dch_390 : decode (am_by am_chz) 390 = .ok (.invokespecial 240, 3) := by decide +kernel
theorem dch_393 : decode (am_by am_chz) 393 = .ok (.ldc_w 257, 3) := by decide +kernel
theorem dch_396 : decode (am_by am_chz) 396 = .ok (.invokevirtual 243, 3) := by decide +kernel
theorem dch_399 : decode (am_by am_chz) 399 = .ok (.iload_n 1, 1) := by decide +kernel
theorem dch_400 : decode (am_by am_chz) 400 = .ok (.iconst 3, 1) := by decide +kernel
theorem dch_401 : decode (am_by am_chz) 401 = .ok (.ishr, 1) := by decide +kernel
theorem dch_402 : decode (am_by am_chz) 402 = .ok (.bipush 6, 2) := by decide +kernel
theorem dch_404 : decode (am_by am_chz) 404 = .ok (.invokestatic 157, 3) := by decide +kernel
theorem dch_407 : decode (am_by am_chz) 407 = .ok (.invokevirtual 246, 3) := by decide +kernel
theorem dch_410 : decode (am_by am_chz) 410 = .ok (.ldc_w 259, 3) := by decide +kernel
theorem dch_413 : decode (am_by am_chz) 413 = .ok (.invokevirtual 243, 3) := by decide +kernel
theorem dch_416 : decode (am_by am_chz) 416 = .ok (.iload_n 1, 1) := by decide +kernel
theorem dch_417 : decode (am_by am_chz) 417 = .ok (.iconst 5, 1) := by decide +kernel
theorem dch_418 : decode (am_by am_chz) 418 = .ok (.ishr, 1) := by decide +kernel
theorem dch_419 : decode (am_by am_chz) 419 = .ok (.bipush 26, 2) := by decide +kernel
theorem dch_421 : decode (am_by am_chz) 421 = .ok (.invokestatic 157, 3) := by decide +kernel
theorem dch_424 : decode (am_by am_chz) 424 = .ok (.invokevirtual 246, 3) := by decide +kernel
theorem dch_427 : decode (am_by am_chz) 427 = .ok (.ldc_w 261, 3) := by decide +kernel
theorem dch_430 : decode (am_by am_chz) 430 = .ok (.invokevirtual 243, 3) := by decide +kernel
theorem dch_433 : decode (am_by am_chz) 433 = .ok (.iload_n 1, 1) := by decide +kernel
theorem dch_434 : decode (am_by am_chz) 434 = .ok (.iconst 4, 1) := by decide +kernel
theorem dch_435 : decode (am_by am_chz) 435 = .ok (.ishr, 1) := by decide +kernel
theorem dch_436 : decode (am_by am_chz) 436 = .ok (.iconst 4, 1) := by decide +kernel
theorem dch_437 : decode (am_by am_chz) 437 = .ok (.invokestatic 157, 3) := by decide +kernel
theorem dch_440 : decode (am_by am_chz) 440 = .ok (.invokevirtual 246, 3) := by decide +kernel
theorem dch_443 : decode (am_by am_chz) 443 = .ok (.invokevirtual 253, 3) := by decide +kernel
section JCall
variable {p : Program} {l : Launch} {e : Env} {R : Room} {s : State} {m : MethodId} {args : Array Value} {below : List Frame} {meth : Method} {c : Code} {Q : State → Prop} {G : am_Γ} {z : Nat} {X0 : am_X} {pc : Nat} {ls : am_S} {st : List am_V} {M : am_M} {X : am_X} {H Hs : Heap} {locs : List Loc} {cells slots : Nat} {lsc : Array Slot} {D : va_G} {cA : ClassId} {b d : Nat} {t : List Nat}
theorem am_bs_i {α : Type} {w : α} {r : Option am_R} {n : Nat × Nat} {K : Nat → am_S → List am_V → am_M → am_X → Option α} (h : am_bs pc ls st r n K = some w) : ∃ v M X, r = some (.inl (some (.inl v)), M, X) ∧ K pc ls (.inl v :: st) M (X.1, X.2.1, X.2.2.1 + n.1, X.2.2.2.1 + n.2, X.2.2.2.2.1, none) = some w := by
  unfold am_bs at h
  split at h
  · exact ⟨_, _, _, rfl, h⟩
  · cases h
theorem ja_map {x : Nat × Nat × Nat × Nat} {L : List am_V} (h : am_n15 L = true) : L.map (am_tv (am_gx G x)) = L.map (am_tv G) := by
  unfold am_n15 at h
  rw [List.all_eq_true] at h
  refine List.map_congr_left fun v hv => ?_
  have h1 := h v hv
  cases v with
  | inl w => rfl
  | inr o =>
    show am_rv (am_gx G x) o = am_rv G o
    refine am_rv_gx (fun u hu => ?_)
    subst hu
    simp only [Bool.and_eq_true, bne_iff_ne, ne_eq] at h1
    exact h1
theorem ja_call {d0 ix y a x : Nat} {vs0 rest : List am_V} {v : Value} {M' : am_M} {X' : am_X} (C : am_Cx p l s m args meth c G z) (hnc : am_Nc G s) (hcs : am_Cs l d0) (hfr : d0 + 27 ≤ R.frames) (hlo : 31 * d0 + 751 ≤ R.locals)
    (hm : am_ml (am_own z) ix = some (1, y)) (dg : decode (am_by z) pc = .ok (.invokestatic ix, 3)) (hlen : vs0.length + 1 = am_na y) (h4 : rest.length ≤ 4) (hone : ∀ v ∈ vs0, am_one v) (n1 : am_n15 vs0 = true) (n2 : am_n15 rest = true)
    (hcall : am_ev d0 y (vs0.reverse ++ [.inr (some (50, 0, 0))]) M (am_hx X t) = some (.inl (some (.inl v)), M', X')) (hH : am_HR G M X H) (hS : va_S (am_A G) s.heap H locs)
    (hso : am_so G a x t H) (hfa : am_fa G a ∧ am_fa G x ∧ a ≠ x) (h128 : ∀ c ∈ t, c < 128) (h60 : t.length ≤ 60) (hsz : lsc.size = am_mL z) (hf : cells + (X'.2.2.1 - X.2.2.1) ≤ R.cells ∧ slots + (X'.2.2.2.1 - X.2.2.2.1) ≤ R.slots)
    (kk : ∀ (H1 : Heap) (L1 : List Loc), (∀ k1 k2 : Nat, am_HR G M' (X'.1, X'.2.1, k1, k2, X'.2.2.2.2.1, none) H1) → va_S (am_A G) s.heap H1 L1 → W p l e R s m args below meth c H1 L1 (cells + (X'.2.2.1 - X.2.2.1)) (slots + (X'.2.2.2.1 - X.2.2.2.1)) Q (F0 m (pc + 3) lsc (v :: rest.map (am_tv G)))) :
    W p l e R s m args below meth c H locs cells slots Q (F0 m pc lsc (.ref a :: (vs0 ++ rest).map (am_tv G))) := by
  have C' : am_Cx p l s m args meth c (am_gx G (am_wa G, a, x, am_b0 G)) z := C
  have hnc' : am_Nc (am_gx G (am_wa G, a, x, am_b0 G)) s := hnc
  have hS' : va_S (am_A (am_gx G (am_wa G, a, x, am_b0 G))) s.heap H locs := hS
  have hHR : am_HR (am_gx G (am_wa G, a, x, am_b0 G)) M (am_hx X t) H := hH.gx rfl rfl ⟨hH.2.2.2.1, hH.2.2.2.2.1, fun t' ht => by
    cases ht
    exact ⟨hfa, hso, h128, h60⟩⟩
  have hy := am_ml_lt hm (by omega)
  have hna : am_na y + (if am_ks y = 0 then 0 else 1) ≤ am_mL y := (am_z_facts hy).2.2.2.2.2.2.2.2.2
  have hlen1 : (.inr (some (50, 0, 0)) :: vs0 : List am_V).length = am_na y := hlen
  have hone1 : ∀ v ∈ (.inr (some (50, 0, 0)) :: vs0 : List am_V).reverse, am_one v := fun v hv => (List.mem_cons.mp (List.mem_reverse.mp hv)).elim (fun q => by rw [q]; exact Or.inr ⟨(50, 0, 0), rfl⟩) (hone v)
  have hlen2 : (.inr (some (50, 0, 0)) :: vs0 : List am_V).reverse.length ≤ am_mL y := by
    rw [List.length_reverse, hlen1]
    omega
  have hcall1 : am_ev d0 y (.inr (some (50, 0, 0)) :: vs0 : List am_V).reverse M (am_hx X t) = some (.inl (some (.inl v)), M', X') := by
    rw [List.reverse_cons]
    exact hcall
  have hrun := am_run_s (R := R) (e := e) (below := below) (locs := locs) (cells := cells) (slots := slots) (lsc := lsc) (vs := .inr (some (50, 0, 0)) :: vs0) (rest := rest) C' hnc' hm (Or.inl rfl) dg hlen1 h4 (hcs y hy _ _ _ _ hone1 hlen2 hcall1) hfr hlo hHR hS' hsz hf
  have e3 : am_tv (am_gx G (am_wa G, a, x, am_b0 G)) (.inr (some (50, 0, 0))) = .ref a := by
    show Value.ref (if (50 : Nat) = 0 then G.2.1 else if (50 : Nat) = 1 then am_wa G else if (50 : Nat) = 50 then a else G.1 + am_ad (50, 0, 0)) = .ref a
    rw [if_neg (by decide), if_neg (by decide), if_pos rfl]
  have e1 : (((.inr (some (50, 0, 0)) :: vs0) ++ rest : List am_V).map (am_tv (am_gx G (am_wa G, a, x, am_b0 G)))) = .ref a :: (vs0 ++ rest).map (am_tv G) := by
    rw [List.cons_append, List.map_cons, e3, List.map_append, List.map_append, ja_map n1, ja_map n2]
  have e2 : rest.map (am_tv (am_gx G (am_wa G, a, x, am_b0 G))) = rest.map (am_tv G) := ja_map n2
  rw [e1, e2] at hrun
  refine am_after_v hrun hS' rfl (fun H1 L1 hH1 hS1 => ?_)
  exact kk H1 L1 (fun k1 k2 => hH1.gx (x := (am_wa G, am_sa G, am_sb0 G, am_b0 G)) rfl rfl ⟨hH1.2.2.2.1, hH1.2.2.2.2.1, fun t' ht => by cases ht⟩) hS1
theorem am_kt_all : ∀ q ∈ am_kt_t, q.1 = 10 ∧ q.2.2 < 9 ∧ q.2.1 = am_six q.2.2 := by decide +kernel
theorem ja_lit : ∀ k, k < 9 → (∀ c ∈ am_lit k, c < 128) ∧ (am_lit k).length ≤ 60 := by decide +kernel
theorem am_s_ldcw {d ix : Nat} {w} (C : am_Cx p l s m args meth c G z) (hnc : am_Nc G s) (htab : am_hs z ≠ [] → c.exceptionTable.toList = tableOf (am_hh z)) (hcs : am_Cs l d) (hfr : d + 27 ≤ R.frames) (hlo : 31 * d + 751 ≤ R.locals) (hle : am_le X0 X) (hcd : am_cd z pc = some (.ldc_w ix)) (h : am_st (am_ev d) z (.ldc_w ix) pc ls st M X = some (.inl w)) (hrm : w.2.2.2.2.2.2.1 - X0.2.2.1 ≤ R.cells ∧ w.2.2.2.2.2.2.2.1 - X0.2.2.2.1 ≤ R.slots) (K : am_Sm p l e R s m args below meth c Q G z X0 w) : am_Sm p l e R s m args below meth c Q G z X0 (pc, ls, st, M, X) := by
  dsimp only [am_st, am_ex] at h
  have C' := C
  obtain ⟨hx, hb, hml, hown, hts, -⟩ := C'
  rcases am_o2_i h with ⟨v, hk, h⟩ | ⟨hk, h⟩
  · cases h
    intro H locs lsc hH hS hl
    obtain ⟨i, hi⟩ := am_al2_in am_kc_ok _ (am_look_in hk)
    exact lv_ldcw hx hb hown (hts _ (am_at_in hi)) (am_dg hcd rfl (by decide)) (K H locs lsc hH hS hl)
  · rcases am_o2_i h with ⟨k, hk, h⟩ | ⟨hk, h⟩
    · obtain ⟨e1, e2, e3⟩ := am_kt_all _ (am_look_in hk)
      dsimp only at e1 e2 e3
      unfold am_sc at h
      split at h
      · rename_i iy hcd2
        split at h
        · rename_i y hm
          obtain ⟨⟨hph, ht0, htr, hna⟩, h⟩ := am_if_i h
          obtain ⟨vs, rest, hlen, rfl, hone, h⟩ := am_popN_i h
          obtain ⟨h4, h⟩ := am_sm_i h
          obtain ⟨⟨n1, n2⟩, h⟩ := am_if_i h
          rw [List.append_nil] at h n1
          obtain ⟨v, M', X', hcall, h⟩ := am_bs_i h
          cases h
          subst e3
          have n3 : am_n15 vs = true := List.all_eq_true.mpr fun v hv => List.all_eq_true.mp n1 v (List.mem_reverse.mpr hv)
          obtain ⟨g1, g2⟩ := hle
          obtain ⟨g3, g4⟩ := am_ev_le _ _ _ _ _ _ hcall
          dsimp only [am_hx] at g3 g4
          dsimp only at hrm
          intro H locs lsc hH hS hl
          dsimp only at hH hl ⊢
          obtain ⟨sa, sb, hR0, ⟨b1, b2, b3⟩, hso⟩ := hnc.2.1 k e2
          have hlt := hso.lt
          have hso1 := hso.kept (hS.2.1 sa hlt.1 (by show ¬ am_b0 G ≤ sa; omega)) (hS.2.1 sb hlt.2 (by show ¬ am_b0 G ≤ sb; omega))
          have hown1 : s.vm.findClass RL = some m.cls := by
            have h9 := hown
            rw [e1] at h9
            exact h9
          have hb0 := C.b0
          refine j_ldcw hx hb hown1 hR0 (am_dg hcd rfl (by decide)) ?_
          refine ja_call C hnc hcs hfr hlo hm (am_dg hcd2 rfl (by decide)) (by omega) h4 hone n3 n2 hcall hH hS hso1 ⟨Or.inl (by omega), Or.inl (by omega), b3⟩ (ja_lit k e2).1 (ja_lit k e2).2 hl.1.1 (by omega) (fun H1 L1 hH1 hS1 => ?_)
          have k1 := K H1 L1 lsc (hH1 _ _) hS1 hl
          dsimp only at k1
          exact W.cs (by omega) (by omega) k1
        · cases h
      · cases h
    · cases h
theorem ja_len {x : Int32} (k n : Nat) : (am_da x k n).length ≤ 2 := by
  unfold am_da am_d10
  split <;> simp
theorem ja_da {x : Int32} {k n : Nat} (h0 : 0 < n) (hn : n < 30) : ∀ c ∈ am_da x k n, c < 128 := by
  intro c hc
  unfold am_da at hc
  have h1 := mo_lt (x := x >>> (nI k &&& 31)) h0 (show n < 1000 by omega)
  generalize (am_mo (x >>> (nI k &&& 31)) (nI n)).toNatClampNeg = v at hc h1
  unfold am_d10 at hc
  split at hc
  · simp only [List.mem_cons, List.not_mem_nil, or_false] at hc
    omega
  · simp only [List.mem_cons, List.not_mem_nil, or_false] at hc
    omega
theorem ja_tx1 {x : Int32} : (∀ c ∈ am_tx 324 x, c < 128) ∧ (am_tx 324 x).length < 16 := by
  have e : am_tx 324 x = am_lit 0 ++ am_da x 3 12 ++ am_lit 1 ++ am_da x 5 7 ++ am_lit 2 ++ am_da x 7 10 := if_pos rfl
  rw [e]
  refine ⟨fun c hc => ?_, ?_⟩
  · simp only [List.mem_append] at hc
    rcases hc with ((((h | h) | h) | h) | h) | h
    · exact (ja_lit 0 (by decide)).1 c h
    · exact ja_da (by decide) (by decide) c h
    · exact (ja_lit 1 (by decide)).1 c h
    · exact ja_da (by decide) (by decide) c h
    · exact (ja_lit 2 (by decide)).1 c h
    · exact ja_da (by decide) (by decide) c h
  · simp only [List.length_append]
    have h1 := ja_len (x := x) 3 12
    have h2 := ja_len (x := x) 5 7
    have h3 := ja_len (x := x) 7 10
    have h4 : (am_lit 0).length = 1 := rfl
    have h5 : (am_lit 1).length = 2 := rfl
    have h6 : (am_lit 2).length = 1 := rfl
    omega
theorem ja_tx2 {x : Int32} : (∀ c ∈ am_tx 386 x, c < 128) ∧ (am_tx 386 x).length < 16 := by
  have e : am_tx 386 x = am_lit 3 ++ am_da x 3 6 ++ am_lit 4 ++ am_da x 5 26 ++ am_lit 5 ++ am_da x 4 4 := if_neg (by decide)
  rw [e]
  refine ⟨fun c hc => ?_, ?_⟩
  · simp only [List.mem_append] at hc
    rcases hc with ((((h | h) | h) | h) | h) | h
    · exact (ja_lit 3 (by decide)).1 c h
    · exact ja_da (by decide) (by decide) c h
    · exact (ja_lit 4 (by decide)).1 c h
    · exact ja_da (by decide) (by decide) c h
    · exact (ja_lit 5 (by decide)).1 c h
    · exact ja_da (by decide) (by decide) c h
  · simp only [List.length_append]
    have h1 := ja_len (x := x) 3 6
    have h2 := ja_len (x := x) 5 26
    have h3 := ja_len (x := x) 4 4
    have h4 : (am_lit 3).length = 1 := rfl
    have h5 : (am_lit 4).length = 3 := rfl
    have h6 : (am_lit 5).length = 2 := rfl
    omega
/-- a StringBuilder is made -/
theorem ja_begin {rest : List Value} (C : am_Cx p l s m args meth c G am_chz) (hnc : am_Nc G s) (hKD : va_K D jcl [(cA, .byte)] s) (hml : c.maxLocals = lsc.size) (hS : va_S (am_A G) s.heap H locs) (hz : am_b0 G ≤ H.size)
    (hfr : 5 ≤ R.frames) (hlo : 113 ≤ R.locals) (hf : cells + 2 ≤ R.cells ∧ slots + 20 ≤ R.slots) (hW : ((Value.ref H.size :: rest).map fun v => v.category).sum ≤ 8)
    (dg0 : decode (am_by am_chz) pc = .ok (.new 238, 3)) (dg1 : decode (am_by am_chz) (pc + 3) = .ok (.dup, 1)) (dg2 : decode (am_by am_chz) (pc + 3 + 1) = .ok (.invokespecial 240, 3))
    (kk : ∀ (b d : Nat) (H1 : Heap) (L1 : List Loc), H.size ≤ b → H.size ≤ d → jStg D cA b d [] s H1 → va_S (am_A G) s.heap H1 L1 → va_S (jNw H.size) H H1 [] → W p l e R s m args below meth c H1 L1 (cells + 1 + 1) (slots + 4 + 16) Q (F0 m (pc + 3 + 1 + 3) lsc (.ref b :: rest))) :
    W p l e R s m args below meth c H locs cells slots Q (F0 m pc lsc rest) := by
  have hJ := hnc.2.2.1.kept hS.2.1
  obtain ⟨hx, hb, hml', hown, hts, -⟩ := C
  have hj := j_hts hts hnc.2.2.2
  have hKn := hKD.1 0 _ rfl
  refine W.newcK hx hb hown (hj _ j_w1154) (hj _ j_w1155) (hj _ j_w29) rfl dg0 (by omega) (by omega) hKn.2.1 rfl fun H1 kC hkC e1 z1 o1 => ?_
  show W p l e R s m args below meth c H1 locs (cells + 1) (slots + 4) Q (F0 m (pc + 3) lsc (.ref H.size :: rest))
  have hP : va_P D jcl [(H.size, .inr (0, [.null, .int 0, .int 0, .int 0]))] H1 := by
    intro i q hi
    match i, hi with
    | 0, hi =>
      cases hi
      refine ⟨_, rfl, (u_born tyJ4 hj j_bw hKn hkC e1 tyJ4_ok).to (fun k hk => ?_)⟩
      match k, hk with
      | 0, _ => rfl
      | 1, _ => rfl
      | 2, _ => rfl
      | 3, _ => rfl
    | k + 1, hi => simp at hi
  have hZ : va_Z "java/lang/String" "COMPACT_STRINGS" "Z" (.int 1) (fun q => q = H.size ∨ H1.size ≤ q) s H1 := (hJ.1.kept (fun a q1 _ => o1 a q1)).narrow (fun q h => by
    show am_b0 G ≤ q
    rcases h with h | h <;> omega)
  refine lv_dup hx hb dg1 rfl ?_
  refine jI (al := []) (rest := .ref H.size :: rest) (k := 0) (ix := 240) (own := "BellTelegraphLaw") (mj_bin l (u0 := s) (H0 := H1) hKD hP hZ) hx hb hml hown hj rfl (hj _ j_w1156) j_w1157 j_w29 j_w1158 (by decide) (by decide +kernel) rfl (by omega) (by omega) ⟨by omega, by omega⟩ hW dg2 ?_
  rintro v H2 L ⟨rfl, d, h1, h2, h3⟩ hL
  have hs1 := hS.1
  have h31 := h3.1
  refine kk H.size d H2 (locs ++ L) (Nat.le_refl _) (by omega) ⟨fun _ => 0, ⟨hKD, h2, by omega, (hZ.kept h3.2.1).narrow (fun q h => ?_)⟩, fun j hj => absurd hj (Nat.not_lt_zero _)⟩ ⟨by omega, fun q q1 q2 => ?_, fun q hq => ?_⟩ ⟨by omega, fun q q1 q2 => ?_, j_nil⟩
  · rcases h with h | h
    · exact Or.inl h
    · exact Or.inr (by omega)
  · rw [h3.2.1 q (by omega) (fun h => by omega), o1 q (by omega)]
    exact hS.2.1 q q1 q2
  · rcases List.mem_append.mp hq with h | h
    · exact hS.2.2 q h
    · show am_b0 G ≤ q.base
      rcases hL q h with h | h <;> omega
  · rw [h3.2.1 q (by omega) (fun h => by omega)]
    exact o1 q q1
/-- the String comes out, and goes to the call -/
theorem ja_end {d0 pc0 : Nat} {T : List Nat} {v : Value} {M' : am_M} {X' : am_X} {H1 : Heap} {L1 : List Loc} (C : am_Cx p l s m args meth c G am_chz) (hnc : am_Nc G s) (hcs : am_Cs l d0) (hfr : d0 + 27 ≤ R.frames) (hlo : 31 * d0 + 751 ≤ R.locals)
    (d1 : D.1 1 = G.2.2.1.1 9) (d2 : D.2 1 0 = G.2.2.1.2 9 0) (d3 : D.2 1 1 = G.2.2.1.2 9 1) (hml : c.maxLocals = lsc.size) (hg : jStg D (G.2.2.2.1 3) b d T s H1) (hS1 : va_S (am_A G) s.heap H1 L1) (hF : va_S (jNw H.size) H H1 []) (hH : am_HR G M X H) (hph : X.2.1 = none) (hz : am_b0 G ≤ H.size)
    (h128 : ∀ c ∈ T, c < 128) (h16 : T.length < 16) (hcall : am_ev d0 am_rdz [.inr (some (3, 0, 0)), .inr (some (50, 0, 0))] M (am_hx X T) = some (.inl (some (.inl v)), M', X')) (hf : cells + 2 + (X'.2.2.1 - X.2.2.1) ≤ R.cells ∧ slots + 20 + (X'.2.2.2.1 - X.2.2.2.1) ≤ R.slots)
    (dg : decode (am_by am_chz) pc0 = .ok (.invokevirtual 253, 3))
    (hgo : ∀ (a : Nat) (H2 : Heap) (L2 : List Loc) (n1 n2 : Nat), W p l e R s m args below meth c H2 L2 n1 n2 Q (F0 m 446 lsc [.ref a, am_tv G (.inr (some (3, 0, 0)))]) → W p l e R s m args below meth c H2 L2 n1 n2 Q (F0 m (pc0 + 3) lsc [.ref a, am_tv G (.inr (some (3, 0, 0)))]))
    (kk : ∀ (H2 : Heap) (L2 : List Loc), (∀ k1 k2 : Nat, am_HR G M' (X'.1, X'.2.1, k1, k2, X'.2.2.2.2.1, none) H2) → va_S (am_A G) s.heap H2 L2 → W p l e R s m args below meth c H2 L2 (cells + 2 + (X'.2.2.1 - X.2.2.1)) (slots + 20 + (X'.2.2.2.1 - X.2.2.2.1)) Q (F0 m 449 lsc [v])) :
    W p l e R s m args below meth c H1 L1 cells slots Q (F0 m pc0 lsc [.ref b, am_tv G (.inr (some (3, 0, 0)))]) := by
  obtain ⟨f, hB, ht⟩ := hg
  obtain ⟨cb, g5, g6, g7, -⟩ := hB.cell
  have C' := C
  obtain ⟨hx, hbb, hml', hown, hts, -⟩ := C'
  have hj := j_hts hts hnc.2.2.2
  have hfit : ∀ j, j < T.length → fits .byte (.int (f j)) = true := by
    intro j hj2
    rw [ht j hj2]
    refine j_fitb _ ?_
    rw [List.getD_eq_getElem?_getD, List.getElem?_eq_getElem hj2]
    exact h128 _ (List.getElem_mem hj2)
  have hph2 := hH.2.2.1
  rw [hph] at hph2
  dsimp only at hph2
  have hF1 := hF.1
  refine jV (C := "java/lang/StringBuilder") (al := []) (rest := [am_tv G (.inr (some (3, 0, 0)))]) (k := 0) (ix := 253) (own := "BellTelegraphLaw") (mj_bts l (u0 := s) (H0 := H1) hB h16 hfit) hx hbb hml hown hj (hj _ j_w1311) j_w1312 j_w29 j_w1314 j_w1313 (by decide) (by decide +kernel) rfl g5 g6 g7 (by omega) (by omega) ⟨by omega, by omega⟩ (am_cat (G := G) [.inr (some (3, 0, 0))] (by decide)) dg ?_
  rintro r H2 L ⟨a, x, f', rfl, ⟨ha, hx2, hax⟩, hf', hP, hS2⟩ hL
  have hs2 := hS2.1
  have hso := ja_so d1 d2 d3 hP rfl (fun j hj => (hf' j hj).trans (ht j hj))
  have hHb : am_HR G M X H2 := hH.bump hph (by omega) (fun q q1 => by
    rw [hS2.2.1 q (by omega) (fun h => absurd (show H1.size ≤ q from h) (by omega))]
    exact hF.2.1 q q1 (fun h => absurd (show H.size ≤ q from h) (by omega))) rfl hph rfl
  have hs1 := hS1.1
  have hS3 : va_S (am_A G) s.heap H2 (L1 ++ L) := by
    refine ⟨by omega, fun q q1 q2 => ?_, fun q hq => ?_⟩
    · rw [hS2.2.1 q (by omega) (fun h => absurd (show H1.size ≤ q from h) (by omega))]
      exact hS1.2.1 q q1 q2
    · rcases List.mem_append.mp hq with h | h
      · exact hS1.2.2 q h
      · have h9 : H1.size ≤ q.base := hL q h
        show am_b0 G ≤ q.base
        omega
  refine hgo a H2 (L1 ++ L) _ _ ?_
  exact ja_call (d0 := d0) (y := am_rdz) (ix := 263) (vs0 := [.inr (some (3, 0, 0))]) (rest := []) (a := a) (x := x) (t := T) C hnc hcs hfr hlo (by decide +kernel) dch_446 (by decide +kernel) (by decide) (fun v hv => by
    rw [List.mem_singleton] at hv
    rw [hv]
    exact Or.inr ⟨(3, 0, 0), rfl⟩) rfl rfl hcall hHb hS3 hso ⟨Or.inr (by omega), Or.inr (by omega), hax⟩ h128 (by omega) (hml.symm.trans hml') hf kk
theorem ja_road1 {d0 : Nat} {x : Int32} {v : Value} {M' : am_M} {X' : am_X} (C : am_Cx p l s m args meth c G am_chz) (hnc : am_Nc G s) (hcs : am_Cs l d0) (hfr : d0 + 27 ≤ R.frames) (hlo : 31 * d0 + 751 ≤ R.locals) (hH : am_HR G M X H) (hS : va_S (am_A G) s.heap H locs) (hph : X.2.1 = none) (hml1 : c.maxLocals = lsc.size) (hl1 : lsc[1]? = some (.val (.int x)))
    (hcall : am_ev d0 am_rdz [.inr (some (3, 0, 0)), .inr (some (50, 0, 0))] M (am_hx X (am_tx 324 x)) = some (.inl (some (.inl v)), M', X')) (hf : cells + 4 + (X'.2.2.1 - X.2.2.1) ≤ R.cells ∧ slots + 40 + (X'.2.2.2.1 - X.2.2.2.1) ≤ R.slots)
    (kk : ∀ (H2 : Heap) (L2 : List Loc), (∀ k1 k2 : Nat, am_HR G M' (X'.1, X'.2.1, k1, k2, X'.2.2.2.2.1, none) H2) → va_S (am_A G) s.heap H2 L2 → W p l e R s m args below meth c H2 L2 (cells + 1 + 1 + 2 + (X'.2.2.1 - X.2.2.1)) (slots + 4 + 16 + 20 + (X'.2.2.2.1 - X.2.2.2.1)) Q (F0 m 449 lsc [v])) :
    W p l e R s m args below meth c H locs cells slots Q (F0 m 324 lsc [am_tv G (.inr (some (3, 0, 0)))]) := by
  obtain ⟨D, hKD, d1, d2, d3⟩ := ja_K C hnc
  have C' := C
  obtain ⟨hx, hb, hml', hown, hts, hK, hU, hN, hXX, hbb, -⟩ := C'
  have hown1 : s.vm.findClass RL = some m.cls := hown
  have hz : am_b0 G ≤ H.size := Nat.le_trans hbb.2.1 hS.1
  have hf2 : cells + 1 + 1 ≤ R.cells ∧ slots + 4 + 16 ≤ R.slots := by omega
  have hW2 : ([am_tv G (.inr (some (3, 0, 0)))].map fun v => v.category).sum ≤ 8 := am_cat (G := G) [.inr (some (3, 0, 0))] (by decide)
  have hW3 : ∀ b : Nat, ((Value.ref b :: [am_tv G (.inr (some (3, 0, 0)))]).map fun v => v.category).sum ≤ 8 := fun b => by first | exact am_cat (G := am_gx G (am_wa G, b, 0, 0)) [.inr (some (50, 0, 0)), .inr (some (3, 0, 0))] (by decide) | simp [Value.category, am_tv, am_rv]
  have q1 := ja_len (x := x) 3 12
  have q2 := ja_len (x := x) 5 7
  have q3 := ja_len (x := x) 7 10
  have q4 : (am_lit 0).length = 1 := rfl
  have q5 : (am_lit 1).length = 2 := rfl
  have q6 : (am_lit 2).length = 1 := rfl
  refine ja_begin C hnc hKD hml1 hS hz (by omega) (by omega) ⟨by omega, by omega⟩ (hW3 _) dch_324 dch_327 dch_328 (fun b d H1 L1 hb1 hd1 g S1 F1 => ?_)
  refine ja_app (k := 0) (pc := 331) (pc2 := 333) (t := []) C hnc hml1 g S1 F1 hz hb1 hd1 (by decide) (by first | omega | (simp only [List.length_append, List.length_nil]; omega)) (by omega) (by omega) hf2 hW2 (fun a ha kq => va_ldcS hx hb hown1 ha dch_331 kq) dch_333 (fun H1 L1 g S1 F1 => ?_)
  have g : jStg D (G.2.2.2.1 3) b d (am_lit 0) s H1 := g
  refine lv_iload_n (i := 1) hx hb dch_336 rfl hl1 ?_
  refine lv_iconst (v := nI 3) hx hb dch_337 (by decide +kernel) ?_
  refine lv_ishr hx hb dch_338 ?_
  refine lv_bipush (v := nI 12) hx hb dch_339 (by decide +kernel) ?_
  refine ja_num (n := 12) (y := x >>> (nI 3 &&& 31)) (pc := 341) (pc2 := 344) C hnc hml1 g S1 F1 hz hb1 hd1 (by decide) (by decide) (Nat.le_trans (Nat.add_le_add_left (show (if 12 ≤ 10 then 1 else 2) ≤ 2 by decide) _) (by first | omega | (simp only [List.length_append, List.length_nil]; omega))) (by omega) (by omega) hf2 (hW3 _) dch_341 rfl dch_344 (fun H1 L1 g S1 F1 => ?_)
  have g : jStg D (G.2.2.2.1 3) b d (am_lit 0 ++ am_da x 3 12) s H1 := g
  refine ja_app (k := 1) (pc := 347) (pc2 := 349) (t := am_lit 0 ++ am_da x 3 12) C hnc hml1 g S1 F1 hz hb1 hd1 (by decide) (by first | omega | (simp only [List.length_append, List.length_nil]; omega)) (by omega) (by omega) hf2 hW2 (fun a ha kq => va_ldcS hx hb hown1 ha dch_347 kq) dch_349 (fun H1 L1 g S1 F1 => ?_)
  have g : jStg D (G.2.2.2.1 3) b d (am_lit 0 ++ am_da x 3 12 ++ am_lit 1) s H1 := g
  refine lv_iload_n (i := 1) hx hb dch_352 rfl hl1 ?_
  refine lv_iconst (v := nI 5) hx hb dch_353 (by decide +kernel) ?_
  refine lv_ishr hx hb dch_354 ?_
  refine lv_bipush (v := nI 7) hx hb dch_355 (by decide +kernel) ?_
  refine ja_num (n := 7) (y := x >>> (nI 5 &&& 31)) (pc := 357) (pc2 := 360) C hnc hml1 g S1 F1 hz hb1 hd1 (by decide) (by decide) (Nat.le_trans (Nat.add_le_add_left (show (if 7 ≤ 10 then 1 else 2) ≤ 2 by decide) _) (by first | omega | (simp only [List.length_append, List.length_nil]; omega))) (by omega) (by omega) hf2 (hW3 _) dch_357 rfl dch_360 (fun H1 L1 g S1 F1 => ?_)
  have g : jStg D (G.2.2.2.1 3) b d (am_lit 0 ++ am_da x 3 12 ++ am_lit 1 ++ am_da x 5 7) s H1 := g
  refine ja_app (k := 2) (pc := 363) (pc2 := 365) (t := am_lit 0 ++ am_da x 3 12 ++ am_lit 1 ++ am_da x 5 7) C hnc hml1 g S1 F1 hz hb1 hd1 (by decide) (by first | omega | (simp only [List.length_append, List.length_nil]; omega)) (by omega) (by omega) hf2 hW2 (fun a ha kq => va_ldcS hx hb hown1 ha dch_363 kq) dch_365 (fun H1 L1 g S1 F1 => ?_)
  have g : jStg D (G.2.2.2.1 3) b d (am_lit 0 ++ am_da x 3 12 ++ am_lit 1 ++ am_da x 5 7 ++ am_lit 2) s H1 := g
  refine lv_iload_n (i := 1) hx hb dch_368 rfl hl1 ?_
  refine lv_bipush (v := nI 7) hx hb dch_369 (by decide +kernel) ?_
  refine lv_ishr hx hb dch_371 ?_
  refine lv_bipush (v := nI 10) hx hb dch_372 (by decide +kernel) ?_
  refine ja_num (n := 10) (y := x >>> (nI 7 &&& 31)) (pc := 374) (pc2 := 377) C hnc hml1 g S1 F1 hz hb1 hd1 (by decide) (by decide) (Nat.le_trans (Nat.add_le_add_left (show (if 10 ≤ 10 then 1 else 2) ≤ 2 by decide) _) (by first | omega | (simp only [List.length_append, List.length_nil]; omega))) (by omega) (by omega) hf2 (hW3 _) dch_374 rfl dch_377 (fun H1 L1 g S1 F1 => ?_)
  have g : jStg D (G.2.2.2.1 3) b d (am_lit 0 ++ am_da x 3 12 ++ am_lit 1 ++ am_da x 5 7 ++ am_lit 2 ++ am_da x 7 10) s H1 := g
  have g : jStg D (G.2.2.2.1 3) b d (am_tx 324 x) s H1 := g
  exact ja_end C hnc hcs hfr hlo d1 d2 d3 hml1 g S1 F1 hH hph hz (ja_tx1 (x := x)).1 (ja_tx1 (x := x)).2 hcall (by omega) dch_380 (fun a H2 L2 n1 n2 k => lv_goto (tgt := 446) hx hb dch_383 (by decide) k) kk
theorem ja_road2 {d0 : Nat} {x : Int32} {v : Value} {M' : am_M} {X' : am_X} (C : am_Cx p l s m args meth c G am_chz) (hnc : am_Nc G s) (hcs : am_Cs l d0) (hfr : d0 + 27 ≤ R.frames) (hlo : 31 * d0 + 751 ≤ R.locals) (hH : am_HR G M X H) (hS : va_S (am_A G) s.heap H locs) (hph : X.2.1 = none) (hml1 : c.maxLocals = lsc.size) (hl1 : lsc[1]? = some (.val (.int x)))
    (hcall : am_ev d0 am_rdz [.inr (some (3, 0, 0)), .inr (some (50, 0, 0))] M (am_hx X (am_tx 386 x)) = some (.inl (some (.inl v)), M', X')) (hf : cells + 4 + (X'.2.2.1 - X.2.2.1) ≤ R.cells ∧ slots + 40 + (X'.2.2.2.1 - X.2.2.2.1) ≤ R.slots)
    (kk : ∀ (H2 : Heap) (L2 : List Loc), (∀ k1 k2 : Nat, am_HR G M' (X'.1, X'.2.1, k1, k2, X'.2.2.2.2.1, none) H2) → va_S (am_A G) s.heap H2 L2 → W p l e R s m args below meth c H2 L2 (cells + 1 + 1 + 2 + (X'.2.2.1 - X.2.2.1)) (slots + 4 + 16 + 20 + (X'.2.2.2.1 - X.2.2.2.1)) Q (F0 m 449 lsc [v])) :
    W p l e R s m args below meth c H locs cells slots Q (F0 m 386 lsc [am_tv G (.inr (some (3, 0, 0)))]) := by
  obtain ⟨D, hKD, d1, d2, d3⟩ := ja_K C hnc
  have C' := C
  obtain ⟨hx, hb, hml', hown, hts, hK, hU, hN, hXX, hbb, -⟩ := C'
  have hown1 : s.vm.findClass RL = some m.cls := hown
  have hz : am_b0 G ≤ H.size := Nat.le_trans hbb.2.1 hS.1
  have hf2 : cells + 1 + 1 ≤ R.cells ∧ slots + 4 + 16 ≤ R.slots := by omega
  have hW2 : ([am_tv G (.inr (some (3, 0, 0)))].map fun v => v.category).sum ≤ 8 := am_cat (G := G) [.inr (some (3, 0, 0))] (by decide)
  have hW3 : ∀ b : Nat, ((Value.ref b :: [am_tv G (.inr (some (3, 0, 0)))]).map fun v => v.category).sum ≤ 8 := fun b => by first | exact am_cat (G := am_gx G (am_wa G, b, 0, 0)) [.inr (some (50, 0, 0)), .inr (some (3, 0, 0))] (by decide) | simp [Value.category, am_tv, am_rv]
  have q1 := ja_len (x := x) 3 6
  have q2 := ja_len (x := x) 5 26
  have q3 := ja_len (x := x) 4 4
  have q4 : (am_lit 3).length = 1 := rfl
  have q5 : (am_lit 4).length = 3 := rfl
  have q6 : (am_lit 5).length = 2 := rfl
  refine ja_begin C hnc hKD hml1 hS hz (by omega) (by omega) ⟨by omega, by omega⟩ (hW3 _) dch_386 dch_389 dch_390 (fun b d H1 L1 hb1 hd1 g S1 F1 => ?_)
  refine ja_app (k := 3) (pc := 393) (pc2 := 396) (t := []) C hnc hml1 g S1 F1 hz hb1 hd1 (by decide) (by first | omega | (simp only [List.length_append, List.length_nil]; omega)) (by omega) (by omega) hf2 hW2 (fun a ha kq => j_ldcw hx hb hown1 ha dch_393 kq) dch_396 (fun H1 L1 g S1 F1 => ?_)
  have g : jStg D (G.2.2.2.1 3) b d (am_lit 3) s H1 := g
  refine lv_iload_n (i := 1) hx hb dch_399 rfl hl1 ?_
  refine lv_iconst (v := nI 3) hx hb dch_400 (by decide +kernel) ?_
  refine lv_ishr hx hb dch_401 ?_
  refine lv_bipush (v := nI 6) hx hb dch_402 (by decide +kernel) ?_
  refine ja_num (n := 6) (y := x >>> (nI 3 &&& 31)) (pc := 404) (pc2 := 407) C hnc hml1 g S1 F1 hz hb1 hd1 (by decide) (by decide) (Nat.le_trans (Nat.add_le_add_left (show (if 6 ≤ 10 then 1 else 2) ≤ 2 by decide) _) (by first | omega | (simp only [List.length_append, List.length_nil]; omega))) (by omega) (by omega) hf2 (hW3 _) dch_404 rfl dch_407 (fun H1 L1 g S1 F1 => ?_)
  have g : jStg D (G.2.2.2.1 3) b d (am_lit 3 ++ am_da x 3 6) s H1 := g
  refine ja_app (k := 4) (pc := 410) (pc2 := 413) (t := am_lit 3 ++ am_da x 3 6) C hnc hml1 g S1 F1 hz hb1 hd1 (by decide) (by first | omega | (simp only [List.length_append, List.length_nil]; omega)) (by omega) (by omega) hf2 hW2 (fun a ha kq => j_ldcw hx hb hown1 ha dch_410 kq) dch_413 (fun H1 L1 g S1 F1 => ?_)
  have g : jStg D (G.2.2.2.1 3) b d (am_lit 3 ++ am_da x 3 6 ++ am_lit 4) s H1 := g
  refine lv_iload_n (i := 1) hx hb dch_416 rfl hl1 ?_
  refine lv_iconst (v := nI 5) hx hb dch_417 (by decide +kernel) ?_
  refine lv_ishr hx hb dch_418 ?_
  refine lv_bipush (v := nI 26) hx hb dch_419 (by decide +kernel) ?_
  refine ja_num (n := 26) (y := x >>> (nI 5 &&& 31)) (pc := 421) (pc2 := 424) C hnc hml1 g S1 F1 hz hb1 hd1 (by decide) (by decide) (Nat.le_trans (Nat.add_le_add_left (show (if 26 ≤ 10 then 1 else 2) ≤ 2 by decide) _) (by first | omega | (simp only [List.length_append, List.length_nil]; omega))) (by omega) (by omega) hf2 (hW3 _) dch_421 rfl dch_424 (fun H1 L1 g S1 F1 => ?_)
  have g : jStg D (G.2.2.2.1 3) b d (am_lit 3 ++ am_da x 3 6 ++ am_lit 4 ++ am_da x 5 26) s H1 := g
  refine ja_app (k := 5) (pc := 427) (pc2 := 430) (t := am_lit 3 ++ am_da x 3 6 ++ am_lit 4 ++ am_da x 5 26) C hnc hml1 g S1 F1 hz hb1 hd1 (by decide) (by first | omega | (simp only [List.length_append, List.length_nil]; omega)) (by omega) (by omega) hf2 hW2 (fun a ha kq => j_ldcw hx hb hown1 ha dch_427 kq) dch_430 (fun H1 L1 g S1 F1 => ?_)
  have g : jStg D (G.2.2.2.1 3) b d (am_lit 3 ++ am_da x 3 6 ++ am_lit 4 ++ am_da x 5 26 ++ am_lit 5) s H1 := g
  refine lv_iload_n (i := 1) hx hb dch_433 rfl hl1 ?_
  refine lv_iconst (v := nI 4) hx hb dch_434 (by decide +kernel) ?_
  refine lv_ishr hx hb dch_435 ?_
  refine lv_iconst (v := nI 4) hx hb dch_436 (by decide +kernel) ?_
  refine ja_num (n := 4) (y := x >>> (nI 4 &&& 31)) (pc := 437) (pc2 := 440) C hnc hml1 g S1 F1 hz hb1 hd1 (by decide) (by decide) (Nat.le_trans (Nat.add_le_add_left (show (if 4 ≤ 10 then 1 else 2) ≤ 2 by decide) _) (by first | omega | (simp only [List.length_append, List.length_nil]; omega))) (by omega) (by omega) hf2 (hW3 _) dch_437 rfl dch_440 (fun H1 L1 g S1 F1 => ?_)
  have g : jStg D (G.2.2.2.1 3) b d (am_lit 3 ++ am_da x 3 6 ++ am_lit 4 ++ am_da x 5 26 ++ am_lit 5 ++ am_da x 4 4) s H1 := g
  have g : jStg D (G.2.2.2.1 3) b d (am_tx 386 x) s H1 := g
  exact ja_end C hnc hcs hfr hlo d1 d2 d3 hml1 g S1 F1 hH hph hz (ja_tx2 (x := x)).1 (ja_tx2 (x := x)).2 hcall (by omega) dch_443 (fun a H2 L2 n1 n2 k => k) kk
theorem am_s_ca {d ix : Nat} {q : am_N} (C : am_Cx p l s m args meth c G z) (hnc : am_Nc G s) (hcs : am_Cs l d) (hfr : d + 27 ≤ R.frames) (hlo : 31 * d + 751 ≤ R.locals) (hle : am_le X0 X) (hcd : am_cd z pc = some (.new ix)) (h : am_ca (am_ev d) z pc ls st M X (fun a b c d e => some (.inl (a, b, c, d, e))) = some q) (hrm : (am_nx q).2.2.1 - X0.2.2.1 ≤ R.cells ∧ (am_nx q).2.2.2.1 - X0.2.2.2.1 ≤ R.slots) (hq : ∀ w, q = .inl w → am_Sm p l e R s m args below meth c Q G z X0 w) : am_Sm p l e R s m args below meth c Q G z X0 (pc, ls, st, M, X) := by
  unfold am_ca at h
  obtain ⟨⟨rfl, hpc, hph, ht0⟩, h1⟩ := am_if_i h
  obtain ⟨v, hg, h2⟩ := am_get_i h1
  obtain ⟨x, rfl, h3⟩ := am_asI_i h2
  obtain ⟨l0, st1, rfl, h5⟩ := am_popP_i h3
  obtain ⟨h4, h6⟩ := am_sm_i h5
  obtain ⟨⟨rfl, hem⟩, h7⟩ := am_if_i h6
  have hst : st1 = [] := List.isEmpty_iff.mp hem
  subst hst
  obtain ⟨r, M', X', hcall, h8⟩ := am_bs_i h7
  cases h8
  obtain ⟨g1, g2⟩ := hle
  obtain ⟨g3, g4⟩ := am_ev_le _ _ _ _ _ _ hcall
  dsimp only [am_hx] at g3 g4
  dsimp only [am_nx] at hrm
  intro H locs lsc hH hS hl
  dsimp only at hH hl ⊢
  have hml1 : c.maxLocals = lsc.size := C.2.2.1.trans hl.1.1.symm
  have hl1 : lsc[1]? = some (.val (.int x)) := hl.at hg
  have fin : ∀ (H2 : Heap) (L2 : List Loc), (∀ k1 k2 : Nat, am_HR G M' (X'.1, X'.2.1, k1, k2, X'.2.2.2.2.1, none) H2) → va_S (am_A G) s.heap H2 L2 → W p l e R s m args below meth c H2 L2 (X.2.2.1 - X0.2.2.1 + 1 + 1 + 2 + (X'.2.2.1 - X.2.2.1)) (X.2.2.2.1 - X0.2.2.2.1 + 4 + 16 + 20 + (X'.2.2.2.1 - X.2.2.2.1)) Q (F0 m 449 lsc [r]) := by
    intro H2 L2 hH2 hS2
    have k := hq _ rfl H2 L2 lsc (hH2 _ _) hS2 hl
    dsimp only at k
    exact W.widen (by omega) (by omega) k
  rcases hpc with rfl | rfl
  · exact ja_road1 C hnc hcs hfr hlo hH hS hph hml1 hl1 hcall (by omega) fin
  · exact ja_road2 C hnc hcs hfr hlo hH hS hph hml1 hl1 hcall (by omega) fin
end JCall
