/-! FROM THE ABSTRACT LAW TO THE LAW'S WALK -/
def am_M0 (L : Nat) (xs : Nat → Int32) : am_M := fun l j => if l = (0, 0, 0) then (if j < L then xs j else 0) else if l = (0, 0, 1) ∧ j = 0 then nI L else 0
def am_X0 : am_X := (fun _ _ => none, some 0, 0, 0, 0, 0)
theorem am_M0_0 {L : Nat} {xs : Nat → Int32} {l : am_L} (h : l.1 ≠ 0) (j : Nat) : am_M0 L xs l j = 0 := by
  unfold am_M0
  rw [if_neg (fun e => h (by rw [e])), if_neg (fun e => h (by rw [e.1]))]
theorem am_HR0 {b sz L : Nat} {dD : va_G} {cA : Nat → ClassId} {xs : Nat → Int32} {H : Heap} (hs : H.size = sz) : am_HR (sz, b, dD, cA, L, xs) (am_M0 L xs) am_X0 H := by
  refine ⟨fun l hl h0 => ?_, ⟨?_, fun j hj => ?_⟩, hs, fun l _ h0 _ => ⟨fun j => am_M0_0 h0 j, fun _ => rfl⟩⟩
  · have := am_al_lt (c := 0) hl h0
    omega
  · show am_M0 L xs (0, 0, 1) 0 = nI L
    unfold am_M0
    rw [if_neg (by decide), if_pos ⟨rfl, rfl⟩]
  · show am_M0 L xs (0, 0, 0) j = xs j
    unfold am_M0
    rw [if_pos rfl, if_pos hj]
theorem am_W_tbl {w : Cond} (h : w ∈ am_W) : w ∈ lw_tbl := (List.mem_filter.mp h).1
theorem am_arr_prim {args : Array Value} {s : State} {t : FieldType} (hts : ∀ w ∈ am_W, w.before args s = true) (ht : t ∈ [FieldType.int, .char, .long, .double]) : ∃ cA : ClassId, ArrOfT s cA t ∧ va_RA s cA t := by
  obtain ⟨c, k, comp, h1, h2, h3⟩ := Cond.arrayClass_spec (hts _ (am_ac_w ht))
  refine ⟨c, fun n z => ⟨fun k h => (by cases h), k, h2, comp, h3⟩, ?_⟩
  simp only [List.mem_cons, List.not_mem_nil, or_false] at ht
  rcases ht with rfl | rfl | rfl | rfl <;> exact h1
theorem am_arr_ref {args : Array Value} {s : State} {ci : Nat} (hts : ∀ w ∈ am_W, w.before args s = true) (hc : ci ∈ [0, 2, 4, 5, 7]) : ∃ cA : ClassId, ArrOfT s cA (.object (am_cR ci)) ∧ va_RA s cA (.object (am_cR ci)) := by
  obtain ⟨comp, c, k, h1, h2, h3, h4, h5⟩ := Cond.arrayOver_spec (hts _ (am_ao_w hc))
  exact ⟨c, fun n z => ⟨fun k h => (by cases h), k, h3, comp, h4⟩, k, comp, h3, h4, h1, h5⟩
theorem am_known {args : Array Value} {s : State} (hts : ∀ w ∈ am_W, w.before args s = true) : ∃ (dD : va_G) (cA : Nat → ClassId), ∀ (sz b L : Nat) (xs : Nat → Int32), va_K dD am_cl (am_tys (sz, b, dD, cA, L, xs)) s := by
  have h1 : ∀ k, ∃ (c : ClassId) (i : Nat → Nat), k < 10 → u_Kn s (am_cR k) (am_cT k) (am_cN k) c i := by
    intro k
    by_cases hk : k < 10
    · obtain ⟨c, i, h⟩ := u_known hts (am_cl_in k hk) (hts _ (am_ins_w hk))
      exact ⟨c, i, fun _ => h⟩
    · exact ⟨0, fun _ => 0, fun h => absurd h hk⟩
  have h2 : ∀ k, ∃ cA : ClassId, (∀ t, (k, t) ∈ [(0, FieldType.int), (1, .char), (2, .long), (3, .double)] → ArrOfT s cA t ∧ va_RA s cA t) ∧ (∀ ci, k = 10 + ci → ci ∈ [0, 2, 4, 5, 7] → ArrOfT s cA (.object (am_cR ci)) ∧ va_RA s cA (.object (am_cR ci))) := by
    intro k
    by_cases h4 : k < 4
    · have : ∃ t, t ∈ [FieldType.int, .char, .long, .double] ∧ ∀ t', (k, t') ∈ [(0, FieldType.int), (1, .char), (2, .long), (3, .double)] → t' = t := by
        have : k = 0 ∨ k = 1 ∨ k = 2 ∨ k = 3 := by omega
        rcases this with rfl | rfl | rfl | rfl
        · exact ⟨.int, by simp, fun t' h => by simpa using h⟩
        · exact ⟨.char, by simp, fun t' h => by simpa using h⟩
        · exact ⟨.long, by simp, fun t' h => by simpa using h⟩
        · exact ⟨.double, by simp, fun t' h => by simpa using h⟩
      obtain ⟨t, ht, hu⟩ := this
      obtain ⟨cA, g⟩ := am_arr_prim hts ht
      exact ⟨cA, fun t' h => by rw [hu t' h]; exact g, fun ci e => by omega⟩
    · by_cases hc : k - 10 ∈ [0, 2, 4, 5, 7]
      · obtain ⟨cA, g⟩ := am_arr_ref hts hc
        refine ⟨cA, fun t' h => ?_, fun ci e _ => ?_⟩
        · simp only [List.mem_cons, Prod.mk.injEq, List.not_mem_nil, or_false] at h
          omega
        · rw [show ci = k - 10 by omega]; exact g
      · refine ⟨0, fun t' h => ?_, fun ci e h => ?_⟩
        · simp only [List.mem_cons, Prod.mk.injEq, List.not_mem_nil, or_false] at h
          omega
        · rw [show ci = k - 10 by omega] at h
          exact absurd h hc
  refine ⟨(fun k => (h1 k).choose, fun k => (h1 k).choose_spec.choose), fun k => (h2 k).choose, fun sz b L xs => ⟨fun k q hq => ?_, fun k q hq => ?_⟩⟩
  · have hk : k < 10 := by
      rcases Nat.lt_or_ge k 10 with h | h
      · exact h
      · rw [List.getElem?_eq_none (by exact h)] at hq
        cases hq
    rw [am_cl_at k hk] at hq
    cases hq
    exact (h1 k).choose_spec.choose_spec hk
  · have p0 := fun k => (h2 k).choose_spec.1
    have p1 := fun k => (h2 k).choose_spec.2
    match k, hq with
    | 0, hq => cases hq; exact p0 0 .int (by simp)
    | 1, hq => cases hq; exact p0 1 .char (by simp)
    | 2, hq => cases hq; exact p0 2 .long (by simp)
    | 3, hq => cases hq; exact p0 3 .double (by simp)
    | 4, hq => cases hq; exact p1 10 0 rfl (by simp)
    | 5, hq => cases hq; exact p1 12 2 rfl (by simp)
    | 6, hq => cases hq; exact p1 14 4 rfl (by simp)
    | 7, hq => cases hq; exact p1 15 5 rfl (by simp)
    | 8, hq => cases hq; exact p1 17 7 rfl (by simp)
    | k + 9, hq => simp [am_tys] at hq
theorem am_no_throw : am_own 227 = 10 ∧ am_tr 227 = true ∧ am_rt 227 = 2 ∧ am_mL 227 = 9 ∧ am_ini 227 = false ∧ am_hs 227 = [] := by decide +kernel
theorem am_flags {l : Launch} (h : l.flags = flags0) : l.stackTraces = false := by
  unfold Launch.stackTraces
  rw [h]
  decide +kernel
theorem am_ret227 {call : Nat → List am_V → am_M → am_X → Option am_R} {i : Instr} {pc : Nat} {ls : am_S} {st : List am_V} {M : am_M} {X : am_X} {r0 : am_R} (hR : am_isR i = true) (h : am_st call 227 i pc ls st M X = some (.inr r0)) : i = .ireturn ∧ ∃ x : Int32, st = [am_I x] ∧ r0 = (.inl (some (am_I x)), M, X) := by
  have n3 := am_no_throw.2.2.1
  unfold am_isR at hR
  split at hR
  · simp only [am_st, am_ex, n3] at h
    cases h
  · simp only [am_st, am_ex, n3] at h
    split at h
    · rename_i h9; cases h9
    · rename_i x1 _
      obtain ⟨_, h⟩ := am_if_i h
      exact ⟨rfl, x1, rfl, (Sum.inr.inj (Option.some.inj h)).symm⟩
    · rename_i h9; cases h9
    · cases h
  · simp only [am_st, am_ex, n3] at h
    cases h
  · simp only [am_st, am_ex, n3] at h
    cases h
  · simp only [am_st, am_ex, n3] at h
    cases h
  · cases hR
/-- what is owed of the abstract law -/
def am_Law : Prop := ∀ (L : Nat) (xs : Nat → Int32), L ≤ 2048 → ∃ (d : Nat) (M' : am_M) (X' : am_X), d ≤ 12 ∧ am_ev (d + 1) 227 [am_P (0, 0, 0)] (am_M0 L xs) am_X0 = some (.inl (some (am_I 1)), M', X') ∧ X'.2.2.1 ≤ 603072 ∧ X'.2.2.2.1 ≤ 7186538
theorem am_narrow_in : ∀ q ∈ am_ncs, (Cond.not (.castable (am_en q.1) (am_en q.2))) ∈ flatC (Jvm.Cond.and given_1 narrow_1) := by decide +kernel
set_option maxRecDepth 100000 in
theorem am_by227 : am_by 227 = code := rfl
set_option maxRecDepth 100000 in
set_option maxHeartbeats 4000000 in
theorem am_whole (hlaw : am_Law) {p : Program} {e : Env} {s : State} {m : MethodId} {below : List Frame} {meth : Method} {c : Code} (l : Launch) (hflags : l.flags = flags0) {b L : Nat} {xs : Nat → Int32} (hL : L ≤ 2048) (C0 : lw_At p s m meth c b L xs) : W p l e room_1 s m #[Value.ref b] below meth c s.heap [] 0 0 (lw_Z below #[Value.ref b] s) (entryFrame m ([Value.ref b] : List Value).toArray 9) := by
  obtain ⟨hx, hb, hr, hml, hown, hts0, hX, hbl, hlocks, hgv⟩ := id C0
  obtain ⟨d, M', X', hd, hev, hc1, hc2⟩ := hlaw L xs hL
  obtain ⟨n1, n2, n3, n4, n5, n6⟩ := am_no_throw
  have hst := am_flags hflags
  have hts : ∀ w ∈ am_W, w.before #[Value.ref b] s = true := fun w hw => hts0 w (am_W_tbl hw)
  obtain ⟨dD, cA, hK⟩ := am_known hts
  have hG := hK s.heap.size b L xs
  have hU : vx_Zq Bundle.tN "UNASSIGNED_STACK" Bundle.steD (am_A (s.heap.size, b, dD, cA, L, xs)) s s.heap := vx_Zqof (hts0 _ (by decide +kernel)) (hts0 _ (by decide +kernel)) (flat_of_before _ hgv _ (by decide +kernel)) (fun a h => Nat.not_le.mpr h)
  have hN : vx_Zq Bundle.tN "SUPPRESSED_SENTINEL" Bundle.listD (am_A (s.heap.size, b, dD, cA, L, xs)) s s.heap := vx_Zqof (hts0 _ (by decide +kernel)) (hts0 _ (by decide +kernel)) (flat_of_before _ hgv _ (by decide +kernel)) (fun a h => Nat.not_le.mpr h)
  have hnc : am_Nc s := fun q hq => va_Nc.of (flat_of_before _ hgv _ (am_narrow_in q hq))
  have C : am_Cx p l s m #[Value.ref b] meth c (s.heap.size, b, dD, cA, L, xs) 227 := ⟨hx, hb, by rw [hml]; exact n4.symm, by rw [n1]; exact hown, hts, hG, hU, hN, hX, ⟨hbl, Nat.le_refl _, hL⟩, hlocks, hst, fun h => by rw [n5] at h; cases h⟩
  have hd0 := Drawn.sameBut.refl s.drawn lw_cs
  rw [am_ev_eq, am_rn_iff] at hev
  obtain ⟨n, hrun⟩ := hev
  refine W.base ?_
  obtain ⟨lsc, hef, hlv⟩ := am_entry (G := (s.heap.size, b, dD, cA, L, xs)) (as := [am_P (0, 0, 0)]) (n := 9) (fun v hv => Or.inr ⟨(0, 0, 0), List.mem_singleton.mp hv⟩) (by decide)
  have hw := am_walk (R := room_1) (e := e) (below := below) (Q := lw_Z below #[Value.ref b] s) (X0 := am_X0) (r0 := (.inl (some (am_I 1)), M', X')) (p := p) (l := l) (s := s.setDrawn s.drawn) (by omega) C hnc (fun h => absurd n6 h) (am_sound l hst d) (by show d + 7 ≤ 19; omega) (by show 31 * d + 151 ≤ 10780; omega) ⟨hc1, hc2⟩
    (fun i pc ls st M X hcd hR hs H locs lsc hH hS hl => by
      obtain ⟨rfl, x1, rfl, e1⟩ := am_ret227 hR hs
      cases e1
      refine va_forget hS.2.2 (W.widen (by exact hc1) (by exact hc2) ?_)
      have hdg := am_dg (k := 1) hcd rfl (by decide)
      rw [am_by227] at hdg
      exact lw_ret hd0 hx hb hr hlocks hdg)
    (fun ix E ic pc ls st M X hcd hnw hle hs => by
      obtain ⟨i, hi⟩ := am_al2_in am_nw_ok _ (am_look_in hnw)
      simp only [am_nww, Bool.and_eq_true, decide_eq_true_eq] at hi
      rw [n1] at hi
      omega)
    (fun pc E H locs lsc rest q ce hE => by cases hE)
    n 0 (am_en0 227 [am_P (0, 0, 0)]) [] (am_M0 L xs) am_X0 (am_le_refl _) hrun
  have hw2 := hw s.heap [] lsc (am_HR0 rfl) va_S.rf hlv
  rw [show entryFrame m ([Value.ref b] : List Value).toArray 9 = F0 m 0 lsc [] from hef m]
  exact hw2
