/-! FROM THE ABSTRACT LAW TO THE LAW'S WALK -/
def am_M0 (L : Nat) (xs : Nat → Int32) : am_M := fun l j => if l = (0, 0, 0) then (if j < L then xs j else 0) else if l = (0, 0, 1) ∧ j = 0 then nI L else 0
def am_X0 : am_X := (fun _ _ => none, some 0, 0, 0, none, none)
theorem am_M0_0 {L : Nat} {xs : Nat → Int32} {l : am_L} (h : l.1 ≠ 0) (j : Nat) : am_M0 L xs l j = 0 := by
  unfold am_M0
  rw [if_neg (fun e => h (by rw [e])), if_neg (fun e => h (by rw [e.1]))]
theorem am_HR0 {G : am_Γ} {M : am_M} {X : am_X} {H : Heap} (hs : H.size = G.1) (h1 : M (0, 0, 1) 0 = nI G.2.2.2.2.1) (h2 : ∀ j, j < G.2.2.2.2.1 → M (0, 0, 0) j = G.2.2.2.2.2.1 j) (h3 : ∀ l : am_L, l.1 ≠ 0 → ∀ j, M l j = 0) (hX : X.1 = fun _ _ => none) (hp : X.2.1 = some 0) (hn : X.2.2.2.2 = (none, none)) : am_HR G M X H := by
  refine ⟨fun l hl h0 => ?_, ⟨h1, h2⟩, ?_, ?_⟩
  · rw [hp] at hl
    have := am_al_lt (c := 0) hl h0
    omega
  · rw [hp]
    exact ⟨hs, fun l _ h0 _ => ⟨h3 l h0, fun j => by rw [hX]⟩⟩
  · exact ⟨(by intro l j v h; rw [hX] at h; cases h), fun f hf => (by rw [hn] at hf; cases hf), fun t ht => (by rw [hn] at ht; cases ht)⟩
theorem am_M0_1 {L : Nat} {xs : Nat → Int32} : am_M0 L xs (0, 0, 1) 0 = nI L := by
  unfold am_M0
  rw [if_neg (by decide), if_pos ⟨rfl, rfl⟩]
theorem am_M0_2 {L : Nat} {xs : Nat → Int32} {j : Nat} (hj : j < L) : am_M0 L xs (0, 0, 0) j = xs j := by
  unfold am_M0
  rw [if_pos rfl, if_pos hj]
theorem am_W_tbl {w : Cond} (h : w ∈ am_W) : w ∈ lw_tbl := (List.mem_filter.mp h).1
theorem am_arr_prim {args : Array Value} {s : State} {t : FieldType} (hts : ∀ w ∈ am_W, w.before args s = true) (ht : t ∈ [FieldType.int, .char, .long, .byte]) : ∃ cA : ClassId, ArrOfT s cA t ∧ va_RA s cA t := by
  obtain ⟨c, k, comp, h1, h2, h3⟩ := Cond.arrayClass_spec (hts _ (am_ac_w ht))
  refine ⟨c, fun n z => ⟨fun k h => (by cases h), k, h2, comp, h3⟩, ?_⟩
  simp only [List.mem_cons, List.not_mem_nil, or_false] at ht
  rcases ht with rfl | rfl | rfl | rfl <;> exact h1
theorem am_arr_ref {args : Array Value} {s : State} {ci : Nat} (hts : ∀ w ∈ am_W, w.before args s = true) (hc : ci ∈ [0, 2, 4, 5, 7]) : ∃ cA : ClassId, ArrOfT s cA (.object (am_cR ci)) ∧ va_RA s cA (.object (am_cR ci)) := by
  obtain ⟨comp, c, k, h1, h2, h3, h4, h5⟩ := Cond.arrayOver_spec (hts _ (am_ao_w hc))
  exact ⟨c, fun n z => ⟨fun k h => (by cases h), k, h3, comp, h4⟩, k, comp, h3, h4, h1, h5⟩
theorem am_known {args : Array Value} {s : State} (hts : ∀ w ∈ am_W, w.before args s = true) : ∃ (dD : va_G) (cA : Nat → ClassId), ∀ (sz b L : Nat) (xs : Nat → Int32) (x : Nat × Nat × Nat × Nat), va_K dD am_cl (am_tys (sz, b, dD, cA, L, xs, x)) s := by
  have h1 : ∀ k, ∃ (c : ClassId) (i : Nat → Nat), k < 10 → u_Kn s (am_cR k) (am_cT k) (am_cN k) c i := by
    intro k
    by_cases hk : k < 10
    · obtain ⟨c, i, h⟩ := u_known hts (am_cl_in k hk) (hts _ (am_ins_w hk))
      exact ⟨c, i, fun _ => h⟩
    · exact ⟨0, fun _ => 0, fun h => absurd h hk⟩
  have h2 : ∀ k, ∃ cA : ClassId, (∀ t, (k, t) ∈ [(0, FieldType.int), (1, .char), (2, .long), (3, .byte)] → ArrOfT s cA t ∧ va_RA s cA t) ∧ (∀ ci, k = 10 + ci → ci ∈ [0, 2, 4, 5, 7] → ArrOfT s cA (.object (am_cR ci)) ∧ va_RA s cA (.object (am_cR ci))) := by
    intro k
    by_cases h4 : k < 4
    · have : ∃ t, t ∈ [FieldType.int, .char, .long, .byte] ∧ ∀ t', (k, t') ∈ [(0, FieldType.int), (1, .char), (2, .long), (3, .byte)] → t' = t := by
        have : k = 0 ∨ k = 1 ∨ k = 2 ∨ k = 3 := by omega
        rcases this with rfl | rfl | rfl | rfl
        · exact ⟨.int, by simp, fun t' h => by simpa using h⟩
        · exact ⟨.char, by simp, fun t' h => by simpa using h⟩
        · exact ⟨.long, by simp, fun t' h => by simpa using h⟩
        · exact ⟨.byte, by simp, fun t' h => by simpa using h⟩
      obtain ⟨t, ht, hu⟩ := this
      obtain ⟨cA, g⟩ := am_arr_prim hts ht
      exact ⟨cA, fun t' h => by rw [hu t' h]; exact g, fun ci e => by omega⟩
    · by_cases hc : k - 10 ∈ [0, 2, 4, 5, 7]
      · obtain ⟨cA, g⟩ := am_arr_ref hts hc
        refine ⟨cA, fun t' h => ?_, fun ci e _ => ?_⟩
        · simp only [List.mem_cons, Prod.mk.injEq, List.not_mem_nil, or_false] at h
          omega
        · rw [show ci = k - 10 by omega]; exact g
      · refine ⟨0, fun t' h => ?_, fun ci e h => ?_⟩
        · simp only [List.mem_cons, Prod.mk.injEq, List.not_mem_nil, or_false] at h
          omega
        · rw [show ci = k - 10 by omega] at h
          exact absurd h hc
  refine ⟨(fun k => (h1 k).choose, fun k => (h1 k).choose_spec.choose), fun k => (h2 k).choose, fun sz b L xs x => ⟨fun k q hq => ?_, fun k q hq => ?_⟩⟩
  · have hk : k < 10 := by
      rcases Nat.lt_or_ge k 10 with h | h
      · exact h
      · rw [List.getElem?_eq_none (by exact h)] at hq
        cases hq
    rw [am_cl_at k hk] at hq
    cases hq
    exact (h1 k).choose_spec.choose_spec hk
  · have p0 := fun k => (h2 k).choose_spec.1
    have p1 := fun k => (h2 k).choose_spec.2
    match k, hq with
    | 0, hq => cases hq; exact p0 0 .int (by simp)
    | 1, hq => cases hq; exact p0 1 .char (by simp)
    | 2, hq => cases hq; exact p0 2 .long (by simp)
    | 3, hq => cases hq; exact p0 3 .byte (by simp)
    | 4, hq => cases hq; exact p1 10 0 rfl (by simp)
    | 5, hq => cases hq; exact p1 12 2 rfl (by simp)
    | 6, hq => cases hq; exact p1 14 4 rfl (by simp)
    | 7, hq => cases hq; exact p1 15 5 rfl (by simp)
    | 8, hq => cases hq; exact p1 17 7 rfl (by simp)
    | k + 9, hq => simp [am_tys] at hq
theorem am_no_throw : am_own 227 = 10 ∧ am_tr 227 = true ∧ am_rt 227 = 2 ∧ am_mL 227 = 11 ∧ am_ini 227 = false ∧ am_hs 227 = [] := by decide +kernel
theorem am_flags {l : Launch} (h : l.flags = flags0) : l.stackTraces = false := by
  unfold Launch.stackTraces
  rw [h]
  decide +kernel
theorem am_ret227 {call : Nat → List am_V → am_M → am_X → Option am_R} {i : Instr} {pc : Nat} {ls : am_S} {st : List am_V} {M : am_M} {X : am_X} {r0 : am_R} (hR : am_isR i = true) (h : am_st call 227 i pc ls st M X = some (.inr r0)) : i = .ireturn ∧ ∃ x : Int32, st = [am_I x] ∧ r0 = (.inl (some (am_I x)), M, X) := by
  have n3 := am_no_throw.2.2.1
  unfold am_isR at hR
  split at hR
  · simp only [am_st, am_ex, n3] at h
    cases h
  · simp only [am_st, am_ex, n3] at h
    split at h
    · rename_i h9; cases h9
    · rename_i x1 _
      obtain ⟨_, h⟩ := am_if_i h
      exact ⟨rfl, x1, rfl, (Sum.inr.inj (Option.some.inj h)).symm⟩
    · rename_i h9; cases h9
    · cases h
  · simp only [am_st, am_ex, n3] at h
    cases h
  · simp only [am_st, am_ex, n3] at h
    cases h
  · simp only [am_st, am_ex, n3] at h
    cases h
  · simp only [am_st, am_ex, n3] at h
    cases h
  · cases hR
/-- what is owed of the abstract law -/
def am_Law : Prop := ∀ (L : Nat) (xs : Nat → Int32), L ≤ 2048 → ∃ (d : Nat) (M' : am_M) (X' : am_X), d ≤ 200 ∧ am_ev (d + 1) 227 [am_P (0, 0, 0)] (am_M0 L xs) am_X0 = some (.inl (some (am_I 1)), M', X') ∧ X'.2.2.1 ≤ 400000 ∧ X'.2.2.2.1 ≤ 4000000
theorem am_narrow_in : ∀ q ∈ am_ncs, (Cond.not (.castable (am_en q.1) (am_en q.2))) ∈ flatC (Jvm.Cond.and given_1 narrow_1) := by decide +kernel
set_option maxRecDepth 100000 in
theorem am_by227 : am_by 227 = code := rfl
/-- a constant String of the law at the start -/
theorem am_so_of {args : Array Value} {s : State} {tm : Term} {G : am_Γ} {t : List Nat} (hN2 : t.length < 2 ^ 31) (hK : va_K G.2.2.1 am_cl (am_tys G) s)
    (e1 : (Cond.exactly tm "java/lang/String").before args s = true) (e2 : (Cond.eq (.field tm "java/lang/String" "coder" "B") (.int 0)).before args s = true)
    (e4 : (Cond.eq (.length (.field tm "java/lang/String" "value" "[B")) (.int (Int32.ofNat t.length))).before args s = true)
    (e5 : ∀ j, j < t.length → (Cond.eq (.elem (.field tm "java/lang/String" "value" "[B") (.int (Int32.ofNat j))) (.int (nI (t.getD j 0)))).before args s = true)
    (e6 : (Cond.exactly (.field tm "java/lang/String" "value" "[B") "[B").before args s = true) :
    ∃ a b, tm.eval args s none [] s = some (.ref a) ∧ am_so G a b t s.heap := by
  obtain ⟨a, c, sC, kC, q1, q2, q3, q4, q5, q6, -⟩ := Cond.exactly_spec (args := args) (first := s) (o := none) (s := s) (idx := []) (t := tm) (cls := "java/lang/String") e1
  obtain ⟨b, cb, SA, kB, r1, r2, r3, r4, r5, r6, -⟩ := Cond.exactly_spec (args := args) (first := s) (o := none) (s := s) (idx := []) (t := .field tm "java/lang/String" "value" "[B") (cls := "[B") e6
  obtain ⟨cf1, k1, i1, f1, cell1, u1, u2, u3, u4, u5, -⟩ := vk_OFof (A := fun _ => False) q1 (va_eqt e2) (fun _ _ h => h)
  obtain ⟨cf2, k2, i2, f2, cell2, w1, w2, w3, w4, w5, -⟩ := vk_OFof (A := fun _ => False) q1 r1 (fun _ _ h => h)
  cases q3.symm.trans u3
  cases q3.symm.trans w3
  obtain ⟨p1, p2, -⟩ := hK.1 9 _ (am_cl_at 9 (by decide))
  obtain ⟨cf3, k3, i3, f3, y1, y2⟩ := p1 0 (by decide)
  obtain ⟨cf4, k4, i4, f4, z1, z2⟩ := p1 1 (by decide)
  cases y1.symm.trans w1
  cases z1.symm.trans u1
  have hlen := va_eqt e4
  obtain ⟨b', cell, t1, hat, hv⟩ := Term.length_spec hlen
  cases r1.symm.trans t1
  obtain ⟨hc, hkn, hst, -⟩ := State.arrayAt?_spec hat
  cases r3.symm.trans hc
  have hsz : SA.slots.size = t.length := by
    simp only [Term.eval, Option.bind_eq_bind] at hlen t1
    rw [t1] at hlen
    simp only [Option.bind_some, hat] at hlen
    split at hlen
    · rename_i hlt
      have e := Value.int.inj (Option.some.inj hlen)
      have e' := congrArg Int32.toNatClampNeg e
      rw [show SA.slots.size.toInt32 = Int32.ofNat SA.slots.size from rfl, Int32.toNatClampNeg_ofNat_of_lt hlt, Int32.toNatClampNeg_ofNat_of_lt hN2] at e'
      exact e'
    · cases hlen
  refine ⟨a, b, q1, sC, SA, ⟨q3, ?_, u4, q5, by rw [← y2]; exact w5, by rw [← z2]; exact u5⟩, r3, ?_, hkn, r5, hsz, fun j hj => ?_⟩
  · rw [q6]; exact Option.some.inj (q2.symm.trans p2)
  · rw [r6]; exact Option.some.inj (r2.symm.trans (hK.2 3 _ rfl).2)
  · obtain ⟨b2, i, cell3, h1, h2, h3, h4, h5⟩ := Term.elem_spec (va_eqt (e5 j hj))
    cases r1.symm.trans h1
    cases hat.symm.trans h3
    have hi : i = Int32.ofNat j := by
      have e : (Term.int (Int32.ofNat j)).eval args s none [] s = some (.int (Int32.ofNat j)) := rfl
      cases h2.symm.trans e
      rfl
    have hcl : i.toNatClampNeg = j := by rw [hi]; exact Int32.toNatClampNeg_ofNat_of_lt (by omega)
    rw [hcl] at h4 h5
    first | exact h5 | exact h4 | exact h5.symm
abbrev am_stm (k : Nat) : Term := .string "BellTelegraphLaw" (am_six k)
theorem am_sf_0 : ∀ k, k < 9 → Cond.stringRef "BellTelegraphLaw" (am_six k) (am_stx k) ∈ lw_tbl := by decide +kernel
theorem am_sf_1 : ∀ k, k < 9 → (Cond.exactly (am_stm k) "java/lang/String") ∈ flatC (Jvm.Cond.and given_1 narrow_1) ∧ (Cond.eq (.field (am_stm k) "java/lang/String" "coder" "B") (.int 0)) ∈ flatC (Jvm.Cond.and given_1 narrow_1) ∧ (Cond.exactly (.field (am_stm k) "java/lang/String" "value" "[B") "[B") ∈ flatC (Jvm.Cond.and given_1 narrow_1) := by decide +kernel
theorem am_sf_2 : ∀ k, k < 9 → (Cond.eq (.length (.field (am_stm k) "java/lang/String" "value" "[B")) (.int (Int32.ofNat (am_lit k).length))) ∈ flatC (Jvm.Cond.and given_1 narrow_1) := by decide +kernel
theorem am_sf_3 : ∀ k, k < 9 → ∀ j, j < (am_lit k).length → (Cond.eq (.elem (.field (am_stm k) "java/lang/String" "value" "[B") (.int (Int32.ofNat j))) (.int (nI ((am_lit k).getD j 0)))) ∈ flatC (Jvm.Cond.and given_1 narrow_1) := by decide +kernel
theorem am_jf_1 : (Cond.eq (.static "java/lang/String" "COMPACT_STRINGS" "Z") (.int 1)) ∈ flatC (Jvm.Cond.and given_1 narrow_1) ∧ Cond.laysStatic "java/lang/String" "COMPACT_STRINGS" "Z" ∈ lw_tbl ∧ Cond.initialized "java/lang/String" ∈ lw_tbl ∧ Cond.initialized "java/lang/Integer" ∈ lw_tbl := by decide +kernel
abbrev am_dgn (o : Nat) : String := if o = 0 then "DigitOnes" else "DigitTens"
theorem am_jf_2 : ∀ o, o < 2 → Cond.laysStatic "java/lang/Integer" (am_dgn o) "[B" ∈ lw_tbl ∧ (Cond.arrayOf (.static "java/lang/Integer" (am_dgn o) "[B") .byte) ∈ flatC (Jvm.Cond.and given_1 narrow_1) ∧ (Cond.eq (.length (.static "java/lang/Integer" (am_dgn o) "[B")) (.int (Int32.ofNat 100))) ∈ flatC (Jvm.Cond.and given_1 narrow_1) := by decide +kernel
def am_sbl : List Cond → List Cond → Bool
  | [], _ => true
  | _ :: _, [] => false
  | a :: as, b :: bs => if a = b then am_sbl as bs else am_sbl (a :: as) bs
theorem am_sbl_in : ∀ {as bs : List Cond}, am_sbl as bs = true → ∀ a ∈ as, a ∈ bs
  | [], _, _, a, h => by cases h
  | _ :: _, [], h, _, _ => by cases h
  | a :: as, b :: bs, h, x, hx => by
    unfold am_sbl at h
    split at h
    · rename_i e
      rcases List.mem_cons.mp hx with rfl | hx
      · rw [e]; exact List.mem_cons_self
      · exact List.mem_cons_of_mem _ (am_sbl_in h x hx)
    · exact List.mem_cons_of_mem _ (am_sbl_in h x hx)
def am_jl (o : Nat) : List Cond := (List.range 100).map fun j => Cond.eq (.elem (.static "java/lang/Integer" (am_dgn o) "[B") (.int (Int32.ofNat j))) (.int (am_dgt o j))
theorem am_jf_30 : am_sbl (am_jl 0) (flatC (Jvm.Cond.and given_1 narrow_1)) = true := by decide +kernel
theorem am_jf_31 : am_sbl (am_jl 1) (flatC (Jvm.Cond.and given_1 narrow_1)) = true := by decide +kernel
theorem am_jf_3 : ∀ o, o < 2 → ∀ j, j < 100 → (Cond.eq (.elem (.static "java/lang/Integer" (am_dgn o) "[B") (.int (Int32.ofNat j))) (.int (am_dgt o j))) ∈ flatC (Jvm.Cond.and given_1 narrow_1) := by
  intro o ho j hj
  have hm : (Cond.eq (.elem (.static "java/lang/Integer" (am_dgn o) "[B") (.int (Int32.ofNat j))) (.int (am_dgt o j))) ∈ am_jl o := List.mem_map.mpr ⟨j, List.mem_range.mpr hj, rfl⟩
  have h2 : o = 0 ∨ o = 1 := by omega
  rcases h2 with rfl | rfl
  · exact am_sbl_in am_jf_30 _ hm
  · exact am_sbl_in am_jf_31 _ hm
theorem am_jf_4 : Cond.laysStatic "jdk/internal/util/Preconditions" "SIOOBE_FORMATTER" "Ljava/util/function/BiFunction;" ∈ lw_tbl ∧ Cond.initialized "jdk/internal/util/Preconditions" ∈ lw_tbl ∧ (Cond.isRef (.static "jdk/internal/util/Preconditions" "SIOOBE_FORMATTER" "Ljava/util/function/BiFunction;")) ∈ flatC (Jvm.Cond.and given_1 narrow_1) := by decide +kernel
theorem am_jf_5 : Cond.instantiable "java/lang/StringBuilder" 4 ∈ lw_tbl ∧ (Cond.sameMethod "java/lang/AbstractStringBuilder" "java/lang/AbstractStringBuilder" "ensureCapacityInternal" "(I)V" ∈ lw_tbl ∧ Cond.privateMethod ⟨"java/lang/AbstractStringBuilder", "ensureCapacityInternal", "(I)V"⟩ ∈ lw_tbl ∧ Cond.instanceMethod ⟨"java/lang/AbstractStringBuilder", "ensureCapacityInternal", "(I)V"⟩ ∈ lw_tbl) ∧ (Cond.sameMethod "java/lang/AbstractStringBuilder" "java/lang/AbstractStringBuilder" "inflateIfNeededFor" "(Ljava/lang/String;)V" ∈ lw_tbl ∧ Cond.privateMethod ⟨"java/lang/AbstractStringBuilder", "inflateIfNeededFor", "(Ljava/lang/String;)V"⟩ ∈ lw_tbl ∧ Cond.instanceMethod ⟨"java/lang/AbstractStringBuilder", "inflateIfNeededFor", "(Ljava/lang/String;)V"⟩ ∈ lw_tbl) ∧ (Cond.sameMethod "java/lang/AbstractStringBuilder" "java/lang/AbstractStringBuilder" "putStringAt" "(ILjava/lang/String;)V" ∈ lw_tbl ∧ Cond.privateMethod ⟨"java/lang/AbstractStringBuilder", "putStringAt", "(ILjava/lang/String;)V"⟩ ∈ lw_tbl ∧ Cond.instanceMethod ⟨"java/lang/AbstractStringBuilder", "putStringAt", "(ILjava/lang/String;)V"⟩ ∈ lw_tbl) := by decide +kernel
/-- what is known at the law's entry of any G that begins there -/
theorem am_Nc0 {args : Array Value} {s : State} {G : am_Γ} (hts0 : ∀ w ∈ lw_tbl, w.before args s = true) (hgv : (Jvm.Cond.and given_1 narrow_1).before args s = true) (hK : va_K G.2.2.1 am_cl (am_tys G) s) (hb0 : am_b0 G = s.heap.size) : am_Nc G s := by
  have hgf := flat_of_before _ hgv
  have hA : ∀ a : Nat, a < s.heap.size → ¬ am_A0 G a := fun a h => by show ¬ am_b0 G ≤ a; omega
  refine ⟨fun q hq => va_Nc.of (hgf _ (am_narrow_in q hq)), fun k hk => ?_, ⟨va_Zof (hts0 _ am_jf_1.2.1) (hts0 _ am_jf_1.2.2.1) (va_eqt (hgf _ am_jf_1.1)) hA, fun o ho => ?_, va_Zqof (hts0 _ am_jf_4.1) (hts0 _ am_jf_4.2.1) (hgf _ am_jf_4.2.2) hA⟩, fun w hw => ?_⟩
  · obtain ⟨f1, f2, f3⟩ := am_sf_1 k hk
    have hl60 : (am_lit k).length < 2 ^ 31 := by
      have : ∀ k, k < 9 → (am_lit k).length < 2 ^ 31 := by decide +kernel
      exact this k hk
    obtain ⟨a, b, h1, h2⟩ := am_so_of (G := G) (t := am_lit k) hl60 hK (hgf _ f1) (hgf _ f2) (hgf _ (am_sf_2 k hk)) (fun j hj => hgf _ (am_sf_3 k hk j hj)) (hgf _ f3)
    have hlt := h2.lt
    refine ⟨a, b, vk_R.of (hts0 _ (am_sf_0 k hk)) h1, ⟨by omega, by omega, ?_⟩, h2⟩
    rintro rfl
    obtain ⟨sC, SA, g1, g2⟩ := h2
    cases g1.1.symm.trans g2.1
    have e3 := (hK.2 3 _ rfl).1
    obtain ⟨p1, p2, kC, p3, p4⟩ := hK.1 9 _ (am_cl_at 9 (by decide))
    obtain ⟨-, kA, y1, comp, y2⟩ := e3 0 (fun _ => .null)
    have e := g1.2.1.symm.trans g2.2.1
    rw [e] at p3
    cases p3.symm.trans y1
    rw [p4] at y2
    cases y2
  · obtain ⟨f1, f2, f3⟩ := am_jf_2 o ho
    obtain ⟨q, hq, hT⟩ := va_Tof (f := fun j => .int (am_dgt o j)) (A := am_A0 G) (N := 100) (by decide) (hgf _ f2) (va_eqt (hgf _ f3)) (fun j hj => va_eqt (hgf _ (am_jf_3 o ho j hj))) hA
    exact ⟨q, va_Zof (hts0 _ f1) (hts0 _ am_jf_1.2.2.2) hq hA, hT⟩
  · have g1 := hts0 _ am_jf_5.1
    obtain ⟨-, ⟨a1, a2, a3⟩, ⟨b1, b2, b3⟩, c1, c2, c3⟩ := am_jf_5
    simp only [j_X, List.mem_cons, List.not_mem_nil, or_false] at hw
    rcases hw with rfl | rfl | rfl
    · exact va_tabs rfl rfl (j_selp (by decide) g1 (hts0 _ a1) (hts0 _ a2) (hts0 _ a3))
    · exact va_tabs rfl rfl (j_selp (by decide) g1 (hts0 _ b1) (hts0 _ b2) (hts0 _ b3))
    · exact va_tabs rfl rfl (j_selp (by decide) g1 (hts0 _ c1) (hts0 _ c2) (hts0 _ c3))
theorem am_wl_at {ls : am_S} {k : Nat} {v : am_V} (h : (am_wl ls)[k]? = some (some v)) : ls[k]? = some (some v) ∧ ∀ l, v = .inr (some l) → l.1 = 0 := by
  unfold am_wl at h
  rw [List.getElem?_map] at h
  cases hk : ls[k]? with
  | none => rw [hk] at h; cases h
  | some w =>
    rw [hk] at h
    have h := Option.some.inj h
    dsimp only at h
    split at h
    · split at h
      · rename_i hl
        cases h
        exact ⟨rfl, fun l e => by cases e; exact hl⟩
      · cases h
    · rename_i hne
      subst h
      exact ⟨rfl, fun l e => absurd (by rw [e]) (hne l)⟩
theorem am_wr_at {ls : am_S} {k : Nat} {v : am_V} (h : (am_wr ls)[k]? = some (some v)) : ls[k]? = some (some v) ∧ ∀ l, v = .inr (some l) → l.1 ≠ 1 ∧ l.1 ≠ 50 := by
  unfold am_wr at h
  rw [List.getElem?_map] at h
  cases hk : ls[k]? with
  | none => rw [hk] at h; cases h
  | some w =>
    rw [hk] at h
    have h := Option.some.inj h
    dsimp only at h
    split at h
    · split at h
      · cases h
      · rename_i hl
        cases h
        exact ⟨rfl, fun l e => by cases e; exact ⟨fun z => hl (Or.inl z), fun z => hl (Or.inr z)⟩⟩
    · rename_i hne
      subst h
      exact ⟨rfl, fun l e => absurd (by rw [e]) (hne l)⟩
theorem am_lv.chg {G G' : am_Γ} {n : Nat} {ls ls' : am_S} {lsc : Array Slot} (h : am_lv G n ls lsc) (hn : ls'.length = ls.length) (hv : ∀ (k : Nat) (v : am_V), ls'[k]? = some (some v) → ls[k]? = some (some v) ∧ am_tv G' v = am_tv G v) : am_lv G' n ls' lsc := by
  refine am_lv.sub h.1 (by rw [hn]; exact h.2) (fun q hq => ?_)
  obtain ⟨k, v, h1, rfl⟩ := am_ll_mem.mp hq
  obtain ⟨h2, h3⟩ := hv k v h1
  exact am_ll_mem.mpr ⟨k, v, h2, by rw [h3]⟩
set_option maxRecDepth 100000 in
set_option maxHeartbeats 4000000 in
theorem am_whole (hlaw : am_Law) {p : Program} {e : Env} {s : State} {m : MethodId} {below : List Frame} {meth : Method} {c : Code} (l : Launch) (hflags : l.flags = flags0) {b L : Nat} {xs : Nat → Int32} (hL : L ≤ 2048) (C0 : lw_At p s m meth c b L xs) : W p l e room_1 s m #[Value.ref b] below meth c s.heap [] 0 0 (lw_Z below #[Value.ref b] s) (entryFrame m ([Value.ref b] : List Value).toArray 11) := by
  obtain ⟨hx, hb, hr, hml, hown, hts0, hX, hbl, hlocks, hgv⟩ := id C0
  obtain ⟨d, M', X', hd, hev, hc1, hc2⟩ := hlaw L xs hL
  obtain ⟨n1, n2, n3, n4, n5, n6⟩ := am_no_throw
  have hst := am_flags hflags
  have hts : ∀ w ∈ am_W, w.before #[Value.ref b] s = true := fun w hw => hts0 w (am_W_tbl hw)
  obtain ⟨dD, cA, hK⟩ := am_known hts
  have hU : vx_Zq Bundle.tN "UNASSIGNED_STACK" Bundle.steD (fun q => s.heap.size ≤ q) s s.heap := vx_Zqof (hts0 _ (by decide +kernel)) (hts0 _ (by decide +kernel)) (flat_of_before _ hgv _ (by decide +kernel)) (fun a h => Nat.not_le.mpr h)
  have hN : vx_Zq Bundle.tN "SUPPRESSED_SENTINEL" Bundle.listD (fun q => s.heap.size ≤ q) s s.heap := vx_Zqof (hts0 _ (by decide +kernel)) (hts0 _ (by decide +kernel)) (flat_of_before _ hgv _ (by decide +kernel)) (fun a h => Nat.not_le.mpr h)
  have hC : ∀ G : am_Γ, (∃ sz x1 x2 x3, s.heap.size ≤ sz ∧ G = (sz, b, dD, cA, L, xs, x1, x2, x3, s.heap.size)) → am_Cx p l s m #[Value.ref b] meth c G 227 ∧ am_Nc G s := by
    rintro G ⟨sz, x1, x2, x3, hsz, rfl⟩
    have hG := hK sz b L xs (x1, x2, x3, s.heap.size)
    exact ⟨⟨hx, hb, by rw [hml]; exact n4.symm, by rw [n1]; exact hown, hts, hG, hU, hN, hX, ⟨hbl, Nat.le_refl _, hL, hsz⟩, hlocks, hst, fun h => by rw [n5] at h; cases h⟩, am_Nc0 (G := (sz, b, dD, cA, L, xs, x1, x2, x3, s.heap.size)) hts0 hgv hG rfl⟩
  have hd0 := Drawn.sameBut.refl s.drawn lw_cs
  rw [am_ev_eq, am_rn_iff] at hev
  obtain ⟨n, hrun⟩ := hev
  refine W.base ?_
  obtain ⟨lsc, hef, hlv⟩ := am_entry (G := (s.heap.size, b, dD, cA, L, xs, 0, 0, 0, s.heap.size)) (as := [am_P (0, 0, 0)]) (n := 11) (fun v hv => Or.inr ⟨(0, 0, 0), List.mem_singleton.mp hv⟩) (by decide)
  have hw := am_walk (R := room_1) (e := e) (below := below) (Q := lw_Z below #[Value.ref b] s) (X0 := am_X0) (r0 := (.inl (some (am_I 1)), M', X')) (p := p) (l := l) (s := s.setDrawn s.drawn) (CG := fun G : am_Γ => ∃ sz x1 x2 x3, s.heap.size ≤ sz ∧ G = (sz, b, dD, cA, L, xs, x1, x2, x3, s.heap.size)) (by omega) hC (fun h => absurd n6 h) (am_sound l hst d) (by show d + 27 ≤ 2048; omega) (by show 31 * d + 751 ≤ 94400; omega) ⟨Nat.le_trans hc1 (by decide +kernel), Nat.le_trans hc2 (by decide +kernel)⟩
    (fun G hG i pc ls st M X hcd hR hs H locs lsc hH hS hl => by
      obtain ⟨rfl, x1, rfl, e1⟩ := am_ret227 hR hs
      cases e1
      obtain ⟨sz, y1, y2, y3, hsz, rfl⟩ := hG
      refine va_forget hS.2.2 (W.widen (k := room_1.cells) (n := room_1.slots) (Nat.le_trans (show X'.2.2.1 - 0 ≤ 400000 from hc1) (by decide +kernel)) (Nat.le_trans (show X'.2.2.2.1 - 0 ≤ 4000000 from hc2) (by decide +kernel)) ?_)
      have hdg := am_dg (k := 1) hcd rfl (by decide)
      rw [am_by227] at hdg
      exact lw_ret hd0 hx hb hr hlocks hdg)
    (fun G hG ix E ic pc ls st M X hcd hnw hle hs => by
      obtain ⟨i, hi⟩ := am_al2_in am_nw_ok _ (am_look_in hnw)
      simp only [am_nww, Bool.and_eq_true, decide_eq_true_eq] at hi
      rw [n1] at hi
      omega)
    (fun G hG pc E H locs lsc rest q ce hE => by cases hE)
    (fun G hG ix ci pc ls M X h227 hph hle K H locs lsc hH hS hl => by
      obtain ⟨sz, y1, y2, y3, hsz, rfl⟩ := hG
      have hS2 := hS.1
      refine K (H.size, b, dD, cA, L, xs, y1, y2, y3, s.heap.size) ⟨_, _, _, _, hS2, rfl⟩ H locs lsc (am_HR0 rfl ?_ ?_ ?_ rfl rfl rfl) hS (hl.chg (by unfold am_wl; simp) (fun k v hk => ?_))
      · exact hH.2.1.1
      · exact hH.2.1.2
      · intro l0 h0 j
        show (if l0.1 = 0 then _ else (0 : Int32)) = 0
        rw [if_neg h0]
      · obtain ⟨h1, h2⟩ := am_wl_at hk
        refine ⟨h1, ?_⟩
        cases v with
        | inl v => rfl
        | inr o =>
          cases o with
          | none => rfl
          | some l0 =>
            have h0 := h2 l0 rfl
            show Value.ref (if l0.1 = 0 then b else _) = Value.ref (if l0.1 = 0 then b else _)
            rw [if_pos h0, if_pos h0])
    (fun G hG pc ls M X hcd h227 hph hw0 hs0 hle hrm K H locs lsc hH hS hl => by
      obtain ⟨C, -⟩ := hC G hG
      obtain ⟨sz, y1, y2, y3, hsz, rfl⟩ := hG
      obtain ⟨g1, g2⟩ := hle
      have dg : decode (am_by 227) pc = .ok (.newarray .long, 2) := am_dg hcd rfl (by decide)
      dsimp only at hH hl ⊢
      have h4 := hH.2.2.1
      rw [hph] at h4
      dsimp only at h4
      refine va_newaK C.1 C.2.1 (hts _ (am_ac_w (by simp [newarray.typeOf]))) rfl dg rfl (n := 13) (by decide) rfl (by decide) (by omega) (by show _ + 13 ≤ _; omega) rfl fun H' cA' e1 z1 o1 _ hNm => ?_
      have hcA : cA' = cA 2 := Option.some.inj (hNm.symm.trans ((hK sz b L xs (y1, y2, y3, s.heap.size)).2 2 _ rfl).2)
      subst hcA
      have hb1 : am_HR (sz, b, dD, cA, L, xs, y1, y2, y3, s.heap.size) M X H' := hH.bump hph (by omega) o1 rfl hph rfl
      have hb2 : am_HR (sz, b, dD, cA, L, xs, H.size, y2, y3, s.heap.size) M (X.1, none, X.2.2.1 + 1, X.2.2.2.1 + 13, some (fun _ => 0), none) H' := am_HR.gx (x := (H.size, y2, y3, s.heap.size)) hb1 rfl hph.symm ⟨hb1.2.2.2.1, fun f hf => ⟨h4, by cases hf; exact e1⟩, fun t ht => by cases ht⟩
      have hS' : va_S (am_A (sz, b, dD, cA, L, xs, H.size, y2, y3, s.heap.size)) s.heap H' locs := ⟨by have := hS.1; show s.heap.size ≤ _; omega, fun q hq hA => by rw [o1 q (Nat.lt_of_lt_of_le hq hS.1)]; exact hS.2.1 q hq hA, hS.2.2⟩
      have k1 := K (sz, b, dD, cA, L, xs, H.size, y2, y3, s.heap.size) ⟨_, _, _, _, hsz, rfl⟩ H' locs lsc hb2 hS' (hl.chg (by unfold am_wr; simp) (fun k v hk => ?_))
      · dsimp only at k1
        have e5 : X.2.2.1 + 1 - am_X0.2.2.1 = X.2.2.1 - am_X0.2.2.1 + 1 := by omega
        have e6 : X.2.2.2.1 + 13 - am_X0.2.2.2.1 = X.2.2.2.1 - am_X0.2.2.2.1 + 13 := by omega
        rw [e5, e6] at k1
        exact k1
      · obtain ⟨h1, h2⟩ := am_wr_at hk
        refine ⟨h1, ?_⟩
        cases v with
        | inl v => rfl
        | inr o => exact am_rv_gx (G := (sz, b, dD, cA, L, xs, y1, y2, y3, s.heap.size)) (x := (H.size, y2, y3, s.heap.size)) (fun v hv => h2 v (by rw [hv])))
    n (s.heap.size, b, dD, cA, L, xs, 0, 0, 0, s.heap.size) ⟨_, _, _, _, Nat.le_refl _, rfl⟩ 0 (am_en0 227 [am_P (0, 0, 0)]) [] (am_M0 L xs) am_X0 (am_le_refl _) hrun
  have hw2 := hw s.heap [] lsc (am_HR0 rfl (am_M0_1 (xs := xs)) (fun j hj => am_M0_2 hj) (fun l0 h0 j => am_M0_0 h0 j) rfl rfl rfl) va_S.rf hlv
  rw [show entryFrame m ([Value.ref b] : List Value).toArray 11 = F0 m 0 lsc [] from hef m]
  exact hw2
