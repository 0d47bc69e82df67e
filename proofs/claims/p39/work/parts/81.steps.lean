/-! EACH INSTRUCTION IS KEPT (by gsound.py) -/
section AmInv
variable {α : Type} {w : α}
theorem am_asI_i {v : am_V} {f : Int32 → Option α} (h : am_asI v f = some w) : ∃ x, v = .inl (.int x) ∧ f x = some w := by
  unfold am_asI at h; split at h
  · exact ⟨_, rfl, h⟩
  · cases h
theorem am_asJ_i {v : am_V} {f : Int64 → Option α} (h : am_asJ v f = some w) : ∃ x, v = .inl (.long x) ∧ f x = some w := by
  unfold am_asJ at h; split at h
  · exact ⟨_, rfl, h⟩
  · cases h
theorem am_o2_i {β : Type} {o : Option β} {f : β → Option α} {x : Option α} (h : am_o2 o f x = some w) : (∃ t, o = some t ∧ f t = some w) ∨ (o = none ∧ x = some w) := by
  unfold am_o2 at h; split at h
  · exact Or.inl ⟨_, rfl, h⟩
  · exact Or.inr ⟨rfl, h⟩
theorem am_asF_i {v : am_V} {f : UInt32 → Option α} (h : am_asF v f = some w) : ∃ x, v = .inl (.float x) ∧ f x = some w := by
  unfold am_asF at h; split at h
  · exact ⟨_, rfl, h⟩
  · cases h
theorem am_asD_i {v : am_V} {f : UInt64 → Option α} (h : am_asD v f = some w) : ∃ x, v = .inl (.double x) ∧ f x = some w := by
  unfold am_asD at h; split at h
  · exact ⟨_, rfl, h⟩
  · cases h
theorem am_asP_i {v : am_V} {f : am_L → Option α} (h : am_asP v f = some w) : ∃ x, v = .inr (some x) ∧ f x = some w := by
  unfold am_asP at h; split at h
  · exact ⟨_, rfl, h⟩
  · cases h
theorem am_popI_i {st : List am_V} {f : Int32 → List am_V → Option α} (h : am_popI st f = some w) : ∃ x r, st = .inl (.int x) :: r ∧ f x r = some w := by
  unfold am_popI at h; split at h
  · exact ⟨_, _, rfl, h⟩
  · cases h
theorem am_popJ_i {st : List am_V} {f : Int64 → List am_V → Option α} (h : am_popJ st f = some w) : ∃ x r, st = .inl (.long x) :: r ∧ f x r = some w := by
  unfold am_popJ at h; split at h
  · exact ⟨_, _, rfl, h⟩
  · cases h
theorem am_popF_i {st : List am_V} {f : UInt32 → List am_V → Option α} (h : am_popF st f = some w) : ∃ x r, st = .inl (.float x) :: r ∧ f x r = some w := by
  unfold am_popF at h; split at h
  · exact ⟨_, _, rfl, h⟩
  · cases h
theorem am_popD_i {st : List am_V} {f : UInt64 → List am_V → Option α} (h : am_popD st f = some w) : ∃ x r, st = .inl (.double x) :: r ∧ f x r = some w := by
  unfold am_popD at h; split at h
  · exact ⟨_, _, rfl, h⟩
  · cases h
theorem am_popP_i {st : List am_V} {f : am_L → List am_V → Option α} (h : am_popP st f = some w) : ∃ x r, st = .inr (some x) :: r ∧ f x r = some w := by
  unfold am_popP at h; split at h
  · exact ⟨_, _, rfl, h⟩
  · cases h
def am_one (v : am_V) : Prop := (∃ x, v = .inl (.int x)) ∨ ∃ l, v = .inr (some l)
theorem am_one.cat {G : am_Γ} {v : am_V} (h : am_one v) : (am_tv G v).category = 1 := by
  rcases h with ⟨x, rfl⟩ | ⟨l, rfl⟩ <;> rfl
theorem am_pop1_i {st : List am_V} {f : am_V → List am_V → Option α} (h : am_pop1 st f = some w) : ∃ x r, st = x :: r ∧ am_one x ∧ f x r = some w := by
  unfold am_pop1 at h; split at h
  · exact ⟨_, _, rfl, Or.inl ⟨_, rfl⟩, h⟩
  · exact ⟨_, _, rfl, Or.inr ⟨_, rfl⟩, h⟩
  · cases h
theorem am_popN_i {f : List am_V → List am_V → Option α} : ∀ {n : Nat} {acc st : List am_V}, am_popN n acc st f = some w → ∃ vs r, vs.length = n ∧ st = vs ++ r ∧ (∀ v ∈ vs, am_one v) ∧ f (vs.reverse ++ acc) r = some w
  | 0, acc, st, h => ⟨[], st, rfl, rfl, (fun _ h => by cases h), h⟩
  | n + 1, acc, st, h => by
    unfold am_popN at h
    obtain ⟨x, r, rfl, h1, h⟩ := am_pop1_i h
    obtain ⟨vs, r2, h2, h3, h4, h5⟩ := am_popN_i h
    refine ⟨x :: vs, r2, by simp [h2], by simp [h3], fun v hv => ?_, by simpa using h5⟩
    rcases List.mem_cons.mp hv with rfl | hv
    · exact h1
    · exact h4 v hv
theorem am_sm_i {st : List am_V} {x : Option α} (h : am_sm st x = some w) : st.length ≤ 4 ∧ x = some w := by
  unfold am_sm at h; split at h
  · exact ⟨by simp, h⟩
  · exact ⟨by simp, h⟩
  · exact ⟨by simp, h⟩
  · exact ⟨by simp, h⟩
  · exact ⟨by simp, h⟩
  · cases h
theorem am_j_i {pc : Nat} {o : Int} {f : Nat → Option α} (h : am_j pc o f = some w) : ∃ t : Nat, (pc : Int) + o = (t : Int) ∧ f t = some w := by
  unfold am_j at h; split at h
  · rename_i t ht; exact ⟨t, ht, h⟩
  · cases h
theorem am_get_i {f : am_V → Option α} : ∀ {ls : am_S} {i : Nat}, am_get ls i f = some w → ∃ v, ls[i]? = some (some v) ∧ f v = some w
  | [], 0, h => by cases h
  | [], _ + 1, h => by cases h
  | none :: _, 0, h => by cases h
  | some v :: _, 0, h => ⟨v, rfl, h⟩
  | none :: l, n + 1, h => by
    obtain ⟨v, h1, h2⟩ := am_get_i (ls := l) (i := n) h
    exact ⟨v, by simpa using h1, h2⟩
  | some _ :: l, n + 1, h => by
    obtain ⟨v, h1, h2⟩ := am_get_i (ls := l) (i := n) h
    exact ⟨v, by simpa using h1, h2⟩
theorem am_if_i {c : Prop} [Decidable c] {a : Option α} (h : (if c then a else none) = some w) : c ∧ a = some w := by
  split at h
  · exact ⟨by assumption, h⟩
  · cases h
theorem am_ifn_i {c : Prop} [Decidable c] {a : Option α} (h : (if c then none else a) = some w) : ¬ c ∧ a = some w := by
  split at h
  · cases h
  · exact ⟨by assumption, h⟩
theorem am_chk_i {X : am_X} {l : am_L} {ci : Nat} {x : Option α} (h : am_chk X l ci x = some w) : am_al X.2.1 l = true ∧ am_kd l = (0, ci, 0) ∧ x = some w := by
  unfold am_chk at h
  obtain ⟨⟨h1, h2⟩, h3⟩ := am_if_i h
  exact ⟨h1, h2, h3⟩
theorem am_arr_i {X : am_X} {l : am_L} {k a b : Nat} {i : Int32} {n : Nat} {x : Nat → Option α} (h : am_arr X l k a b i n x = some w) : am_al X.2.1 l = true ∧ am_kd l = (k, a, b) ∧ vp_in i n ∧ x i.toNatClampNeg = some w := by
  unfold am_arr at h
  obtain ⟨⟨h1, h2, h3⟩, h4⟩ := am_if_i h
  exact ⟨h1, h2, h3, h4⟩
theorem am_nu_i {X : am_X} {k : Nat × Nat × Nat} {n : Nat} {f : am_L → am_X → Option α} (h : am_nu X k n f = some w) : ∃ c l, X.2.1 = some c ∧ am_ok l = true ∧ am_ad l = c ∧ am_kd l = k ∧ l.1 ≠ 0 ∧ f l (X.1, am_nph c, X.2.2.1 + 1, X.2.2.2.1 + n, X.2.2.2.2) = some w := by
  unfold am_nu at h; split at h
  · cases h
  · rename_i c hc
    obtain ⟨⟨h1, h2, h3, h4⟩, h5⟩ := am_if_i h
    exact ⟨c, _, hc, h1, h2, h3, h4, h5⟩
end AmInv
/-- a place that is an object, or an array of ours, isn't the script -/
theorem am_kd_ne {l : am_L} {k a b : Nat} (h : am_kd l = (k, a, b)) (hk : k ≠ 6) : l.1 ≠ 0 := by
  intro h0
  obtain ⟨t, n, q⟩ := l
  dsimp only at h0
  subst h0
  have : (6, 0, 0) = (k, a, b) := h
  cases this
  exact hk rfl
theorem am_rv_ref {G : am_Γ} {l : am_L} (h : l.1 ≠ 0) : am_rv G (some l) = .ref (am_adr G l) := by
  show Value.ref (if l.1 = 0 then G.2.1 else am_adr G l) = _
  rw [if_neg h]
theorem am_kd_ci {l : am_L} {ci : Nat} (h : am_kd l = (0, ci, 0)) : ci < 10 := by
  obtain ⟨t, n, q⟩ := l
  simp only [am_kd] at h
  split at h <;> simp only [Prod.mk.injEq] at h <;> omega
theorem am_fl_w {own ix ci j : Nat} (h : am_fl own ix = some (ci, j)) : (Cond.fieldLink (am_cR own) ix (am_cR ci) (am_cT ci j).2.1 (am_cT ci j).2.2.1) ∈ am_W ∧ j < am_cN ci ∧ ci < 10 ∧ (am_cT ci j).1 = am_cR ci := by
  obtain ⟨i, hi⟩ := am_al2_in am_fl_ok _ (am_look_in h)
  simp only [am_flw, Bool.and_eq_true, decide_eq_true_eq] at hi
  exact ⟨am_at_in hi.1.1.1, hi.1.1.2, hi.1.2, hi.2⟩
theorem am_fk_ty {ci j : Nat} (hci : ci < 10) (hj : j < am_cN ci) : (am_fk ci j = 0 → am_cY ci j = .int) ∧ (am_fk ci j = 1 → am_cY ci j = .boolean) ∧ (am_fk ci j = 2 → am_cY ci j = .char) := by
  have h := am_cY_ok ci hci j hj
  unfold am_fk
  split
  · rename_i e
    rw [e] at h
    refine ⟨fun _ => ?_, fun q => (by cases q), fun q => (by cases q)⟩
    exact (Option.some.inj ((show parseFieldDescriptor "I" = some .int by decide +kernel).symm.trans h)).symm
  · rename_i e
    rw [e] at h
    refine ⟨fun q => (by cases q), fun _ => ?_, fun q => by cases q⟩
    exact (Option.some.inj ((show parseFieldDescriptor "Z" = some .boolean by decide +kernel).symm.trans h)).symm
  · rename_i e
    rw [e] at h
    refine ⟨fun q => (by cases q), fun q => (by cases q), fun _ => ?_⟩
    exact (Option.some.inj ((show parseFieldDescriptor "C" = some .char by decide +kernel).symm.trans h)).symm
  all_goals exact ⟨fun q => (by cases q), fun q => (by cases q), fun q => by cases q⟩
/-- what an int field of a small type may be given -/
theorem am_pc_nar {ci j : Nat} (hci : ci < 10) (hj : j < am_cN ci) {x : Int32} (h : am_pc (am_fk ci j) x = true) : narrow (am_cY ci j) (.int x) = .int x ∧ fits (am_cY ci j) (.int x) = true := by
  obtain ⟨h0, h1, h2⟩ := am_fk_ty hci hj
  unfold am_pc at h
  split at h
  · rename_i e; rw [h0 e]; exact ⟨rfl, rfl⟩
  · rename_i e; rw [h1 e]
    simp only [Bool.or_eq_true, beq_iff_eq] at h
    rcases h with h | h <;> rw [h] <;> exact ⟨by decide, by decide⟩
  · rename_i e; rw [h2 e]
    simp only [decide_eq_true_eq] at h
    have h1 := Int32.le_iff_toInt_le.mp h.1
    have h2 := Int32.le_iff_toInt_le.mp h.2
    have h3 := lg_i2c_word (v := x) (by simpa using h1) (by have : (65535 : Int32).toInt = 65535 := by decide
                                                            omega)
    rw [lg_i2c_nf] at h3
    exact ⟨by simp only [narrow, h3], by simp [fits, h]⟩
  · cases h
def am_tys (G : am_Γ) : List (ClassId × FieldType) := [(G.2.2.2.1 0, .int), (G.2.2.2.1 1, .char), (G.2.2.2.1 2, .long), (G.2.2.2.1 3, .byte), (G.2.2.2.1 10, .object RX0), (G.2.2.2.1 12, .object RX2), (G.2.2.2.1 14, .object RX4), (G.2.2.2.1 15, .object RX5), (G.2.2.2.1 17, .object RX7)]
section AmSound
variable {p : Program} {l : Launch} {e : Env} {R : Room} {s : State} {m : MethodId} {args : Array Value} {below : List Frame} {meth : Method} {c : Code} {Q : State → Prop} {G : am_Γ} {z : Nat} {X0 : am_X} {call : Nat → List am_V → am_M → am_X → Option am_R} {pc : Nat} {ls : am_S} {st : List am_V} {M : am_M} {X : am_X}
abbrev am_A (G : am_Γ) : Nat → Prop := fun q => am_b0 G ≤ q
def am_Sm (p : Program) (l : Launch) (e : Env) (R : Room) (s : State) (m : MethodId) (args : Array Value) (below : List Frame) (meth : Method) (c : Code) (Q : State → Prop) (G : am_Γ) (z : Nat) (X0 : am_X) (w : Nat × am_S × List am_V × am_M × am_X) : Prop :=
  ∀ (H : Heap) (locs : List Loc) (lsc : Array Slot), am_HR G w.2.2.2.1 w.2.2.2.2 H → va_S (am_A G) s.heap H locs → am_lv G (am_mL z) w.2.1 lsc → W p l e R s m args below meth c H locs (w.2.2.2.2.2.2.1 - X0.2.2.1) (w.2.2.2.2.2.2.2.1 - X0.2.2.2.1) Q (F0 m w.1 lsc (w.2.2.1.map (am_tv G)))
def am_Cx (p : Program) (l : Launch) (s : State) (m : MethodId) (args : Array Value) (meth : Method) (c : Code) (G : am_Γ) (z : Nat) : Prop :=
  p.tables.exec = Jvm.exec ∧ c.code = am_by z ∧ c.maxLocals = am_mL z ∧ s.vm.findClass (am_cR (am_own z)) = some m.cls ∧ (∀ w ∈ am_W, w.before args s = true) ∧ va_K G.2.2.1 am_cl (am_tys G) s ∧ vx_Zq Bundle.tN "UNASSIGNED_STACK" Bundle.steD (am_A G) s s.heap ∧ vx_Zq Bundle.tN "SUPPRESSED_SENTINEL" Bundle.listD (am_A G) s s.heap ∧ va_X G.2.1 G.2.2.2.2.1 G.2.2.2.2.2.1 s s.heap ∧ (G.2.1 < am_b0 G ∧ am_b0 G ≤ s.heap.size ∧ G.2.2.2.2.1 ≤ 2048 ∧ am_b0 G ≤ G.1) ∧ meth.locks = false ∧ l.stackTraces = false ∧ (am_ini z = true → meth.name = "<init>")
theorem am_Cx.b0 (C : am_Cx p l s m args meth c G z) : am_b0 G ≤ G.1 := C.2.2.2.2.2.2.2.2.2.1.2.2.2
theorem am_s_iload_n {j : Fin 4} (C : am_Cx p l s m args meth c G z) (dg : decode (am_by z) pc = .ok (.iload_n j, 1)) {w} (h : am_st call z (.iload_n j) pc ls st M X = some (.inl w)) (K : am_Sm p l e R s m args below meth c Q G z X0 w) : am_Sm p l e R s m args below meth c Q G z X0 (pc, ls, st, M, X) := by
  obtain ⟨hx, hb, hml, hown, hts, hK, hU, hN, hX, hbb, hlk, hst, hini⟩ := C
  simp only [am_st, am_ex] at h
  intro H locs lsc hH hS hl
  obtain ⟨v, g1, h_1⟩ := am_get_i h
  obtain ⟨x, rfl, h_2⟩ := am_asI_i h_1
  cases h_2
  exact lv_iload_n hx hb dg rfl (hl.at g1) (K H locs lsc hH hS hl)
theorem am_s_iload {j : Nat} (C : am_Cx p l s m args meth c G z) (dg : decode (am_by z) pc = .ok (.iload j, 2)) {w} (h : am_st call z (.iload j) pc ls st M X = some (.inl w)) (K : am_Sm p l e R s m args below meth c Q G z X0 w) : am_Sm p l e R s m args below meth c Q G z X0 (pc, ls, st, M, X) := by
  obtain ⟨hx, hb, hml, hown, hts, hK, hU, hN, hX, hbb, hlk, hst, hini⟩ := C
  simp only [am_st, am_ex] at h
  intro H locs lsc hH hS hl
  obtain ⟨v, g1, h_1⟩ := am_get_i h
  obtain ⟨x, rfl, h_2⟩ := am_asI_i h_1
  cases h_2
  exact lv_iload hx hb dg (hl.at g1) (K H locs lsc hH hS hl)
theorem am_s_aload_n {j : Fin 4} (C : am_Cx p l s m args meth c G z) (dg : decode (am_by z) pc = .ok (.aload_n j, 1)) {w} (h : am_st call z (.aload_n j) pc ls st M X = some (.inl w)) (K : am_Sm p l e R s m args below meth c Q G z X0 w) : am_Sm p l e R s m args below meth c Q G z X0 (pc, ls, st, M, X) := by
  obtain ⟨hx, hb, hml, hown, hts, hK, hU, hN, hX, hbb, hlk, hst, hini⟩ := C
  simp only [am_st, am_ex] at h
  intro H locs lsc hH hS hl
  obtain ⟨v, g1, h_1⟩ := am_get_i h
  obtain ⟨x, rfl, h_2⟩ := am_asP_i h_1
  cases h_2
  exact lv_aload_n hx hb dg rfl (hl.at g1) (K H locs lsc hH hS hl)
theorem am_s_aload {j : Nat} (C : am_Cx p l s m args meth c G z) (dg : decode (am_by z) pc = .ok (.aload j, 2)) {w} (h : am_st call z (.aload j) pc ls st M X = some (.inl w)) (K : am_Sm p l e R s m args below meth c Q G z X0 w) : am_Sm p l e R s m args below meth c Q G z X0 (pc, ls, st, M, X) := by
  obtain ⟨hx, hb, hml, hown, hts, hK, hU, hN, hX, hbb, hlk, hst, hini⟩ := C
  simp only [am_st, am_ex] at h
  intro H locs lsc hH hS hl
  obtain ⟨v, g1, h_1⟩ := am_get_i h
  obtain ⟨x, rfl, h_2⟩ := am_asP_i h_1
  cases h_2
  exact lv_aload hx hb dg (hl.at g1) (K H locs lsc hH hS hl)
theorem am_s_fload {j : Nat} (C : am_Cx p l s m args meth c G z) (dg : decode (am_by z) pc = .ok (.fload j, 2)) {w} (h : am_st call z (.fload j) pc ls st M X = some (.inl w)) (K : am_Sm p l e R s m args below meth c Q G z X0 w) : am_Sm p l e R s m args below meth c Q G z X0 (pc, ls, st, M, X) := by
  obtain ⟨hx, hb, hml, hown, hts, hK, hU, hN, hX, hbb, hlk, hst, hini⟩ := C
  simp only [am_st, am_ex] at h
  intro H locs lsc hH hS hl
  obtain ⟨v, g1, h_1⟩ := am_get_i h
  obtain ⟨x, rfl, h_2⟩ := am_asF_i h_1
  cases h_2
  exact lv_fload hx hb dg (hl.at g1) (K H locs lsc hH hS hl)
theorem am_s_dload {j : Nat} (C : am_Cx p l s m args meth c G z) (dg : decode (am_by z) pc = .ok (.dload j, 2)) {w} (h : am_st call z (.dload j) pc ls st M X = some (.inl w)) (K : am_Sm p l e R s m args below meth c Q G z X0 w) : am_Sm p l e R s m args below meth c Q G z X0 (pc, ls, st, M, X) := by
  obtain ⟨hx, hb, hml, hown, hts, hK, hU, hN, hX, hbb, hlk, hst, hini⟩ := C
  simp only [am_st, am_ex] at h
  intro H locs lsc hH hS hl
  obtain ⟨v, g1, h_1⟩ := am_get_i h
  obtain ⟨x, rfl, h_2⟩ := am_asD_i h_1
  cases h_2
  exact lv_dload hx hb dg (hl.at g1) (K H locs lsc hH hS hl)
theorem am_s_istore_n {j : Fin 4} (C : am_Cx p l s m args meth c G z) (dg : decode (am_by z) pc = .ok (.istore_n j, 1)) {w} (h : am_st call z (.istore_n j) pc ls st M X = some (.inl w)) (K : am_Sm p l e R s m args below meth c Q G z X0 w) : am_Sm p l e R s m args below meth c Q G z X0 (pc, ls, st, M, X) := by
  obtain ⟨hx, hb, hml, hown, hts, hK, hU, hN, hX, hbb, hlk, hst, hini⟩ := C
  simp only [am_st, am_ex] at h
  intro H locs lsc hH hS hl
  obtain ⟨x, st1, rfl, h_1⟩ := am_popI_i h
  obtain ⟨hj, h_2⟩ := am_if_i h_1
  cases h_2
  exact lv_istore_n hx hb dg rfl hl.1 (by rw [← hl.2]; exact hj) rfl (fun lsc' hl' => K H locs lsc' hH hS (am_lv.sub hl' (by rw [am_put_len]; exact hl.2) (am_put_sub hj _ _ (fun u e => by cases e; rfl))))
theorem am_s_istore {j : Nat} (C : am_Cx p l s m args meth c G z) (dg : decode (am_by z) pc = .ok (.istore j, 2)) {w} (h : am_st call z (.istore j) pc ls st M X = some (.inl w)) (K : am_Sm p l e R s m args below meth c Q G z X0 w) : am_Sm p l e R s m args below meth c Q G z X0 (pc, ls, st, M, X) := by
  obtain ⟨hx, hb, hml, hown, hts, hK, hU, hN, hX, hbb, hlk, hst, hini⟩ := C
  simp only [am_st, am_ex] at h
  intro H locs lsc hH hS hl
  obtain ⟨x, st1, rfl, h_1⟩ := am_popI_i h
  obtain ⟨hj, h_2⟩ := am_if_i h_1
  cases h_2
  exact lv_istore hx hb dg hl.1 (by rw [← hl.2]; exact hj) rfl (fun lsc' hl' => K H locs lsc' hH hS (am_lv.sub hl' (by rw [am_put_len]; exact hl.2) (am_put_sub hj _ _ (fun u e => by cases e; rfl))))
theorem am_s_astore_n {j : Fin 4} (C : am_Cx p l s m args meth c G z) (dg : decode (am_by z) pc = .ok (.astore_n j, 1)) {w} (h : am_st call z (.astore_n j) pc ls st M X = some (.inl w)) (K : am_Sm p l e R s m args below meth c Q G z X0 w) : am_Sm p l e R s m args below meth c Q G z X0 (pc, ls, st, M, X) := by
  obtain ⟨hx, hb, hml, hown, hts, hK, hU, hN, hX, hbb, hlk, hst, hini⟩ := C
  simp only [am_st, am_ex] at h
  intro H locs lsc hH hS hl
  obtain ⟨x, st1, rfl, h_1⟩ := am_popP_i h
  obtain ⟨hj, h_2⟩ := am_if_i h_1
  cases h_2
  exact lv_astore_n hx hb dg rfl hl.1 (by rw [← hl.2]; exact hj) rfl (fun lsc' hl' => K H locs lsc' hH hS (am_lv.sub hl' (by rw [am_put_len]; exact hl.2) (am_put_sub hj _ _ (fun u e => by cases e; rfl))))
theorem am_s_astore {j : Nat} (C : am_Cx p l s m args meth c G z) (dg : decode (am_by z) pc = .ok (.astore j, 2)) {w} (h : am_st call z (.astore j) pc ls st M X = some (.inl w)) (K : am_Sm p l e R s m args below meth c Q G z X0 w) : am_Sm p l e R s m args below meth c Q G z X0 (pc, ls, st, M, X) := by
  obtain ⟨hx, hb, hml, hown, hts, hK, hU, hN, hX, hbb, hlk, hst, hini⟩ := C
  simp only [am_st, am_ex] at h
  intro H locs lsc hH hS hl
  obtain ⟨x, st1, rfl, h_1⟩ := am_popP_i h
  obtain ⟨hj, h_2⟩ := am_if_i h_1
  cases h_2
  exact lv_astore hx hb dg hl.1 (by rw [← hl.2]; exact hj) rfl (fun lsc' hl' => K H locs lsc' hH hS (am_lv.sub hl' (by rw [am_put_len]; exact hl.2) (am_put_sub hj _ _ (fun u e => by cases e; rfl))))
theorem am_s_fstore {j : Nat} (C : am_Cx p l s m args meth c G z) (dg : decode (am_by z) pc = .ok (.fstore j, 2)) {w} (h : am_st call z (.fstore j) pc ls st M X = some (.inl w)) (K : am_Sm p l e R s m args below meth c Q G z X0 w) : am_Sm p l e R s m args below meth c Q G z X0 (pc, ls, st, M, X) := by
  obtain ⟨hx, hb, hml, hown, hts, hK, hU, hN, hX, hbb, hlk, hst, hini⟩ := C
  simp only [am_st, am_ex] at h
  intro H locs lsc hH hS hl
  obtain ⟨x, st1, rfl, h_1⟩ := am_popF_i h
  obtain ⟨hj, h_2⟩ := am_if_i h_1
  cases h_2
  exact lv_fstore hx hb dg hl.1 (by rw [← hl.2]; exact hj) rfl (fun lsc' hl' => K H locs lsc' hH hS (am_lv.sub hl' (by rw [am_put_len]; exact hl.2) (am_put_sub hj _ _ (fun u e => by cases e; rfl))))
theorem am_s_dstore {j : Nat} (C : am_Cx p l s m args meth c G z) (dg : decode (am_by z) pc = .ok (.dstore j, 2)) {w} (h : am_st call z (.dstore j) pc ls st M X = some (.inl w)) (K : am_Sm p l e R s m args below meth c Q G z X0 w) : am_Sm p l e R s m args below meth c Q G z X0 (pc, ls, st, M, X) := by
  obtain ⟨hx, hb, hml, hown, hts, hK, hU, hN, hX, hbb, hlk, hst, hini⟩ := C
  simp only [am_st, am_ex] at h
  intro H locs lsc hH hS hl
  obtain ⟨x, st1, rfl, h_1⟩ := am_popD_i h
  obtain ⟨hj, h_2⟩ := am_if_i h_1
  cases h_2
  exact lv_dstore hx hb dg hl.1 (by rw [← hl.2]; exact hj) rfl (fun lsc' hl' => K H locs lsc' hH hS (am_lv.sub hl' (by show (am_put2 _ _ _).length = _; rw [am_put2, List.length_set, am_put_len]; exact hl.2) (am_put2_sub hj _)))
theorem am_s_iinc {j : Nat} {k : Int} (C : am_Cx p l s m args meth c G z) (dg : decode (am_by z) pc = .ok (.iinc j k, 3)) {w} (h : am_st call z (.iinc j k) pc ls st M X = some (.inl w)) (K : am_Sm p l e R s m args below meth c Q G z X0 w) : am_Sm p l e R s m args below meth c Q G z X0 (pc, ls, st, M, X) := by
  obtain ⟨hx, hb, hml, hown, hts, hK, hU, hN, hX, hbb, hlk, hst, hini⟩ := C
  simp only [am_st, am_ex] at h
  intro H locs lsc hH hS hl
  obtain ⟨v, g1, h_1⟩ := am_get_i h
  obtain ⟨x, rfl, h_2⟩ := am_asI_i h_1
  cases h_2
  have hj : j < ls.length := (List.getElem?_eq_some_iff.mp g1).1
  obtain ⟨q, hq⟩ := List.getElem?_of_mem (am_ll_mem (G := G) (i := 0) |>.mpr ⟨j, _, g1, rfl⟩)
  rw [Nat.zero_add] at hq
  exact lv_iinc (k := q) hx hb dg hl.1 hq rfl (by rw [← hl.2]; exact hj) rfl (fun lsc' hl' => K H locs lsc' hH hS (am_lv.sub hl' (by rw [am_put_len]; exact hl.2) (am_put_sub hj _ _ (fun u e => by cases e; rfl))))
theorem am_s_iconst {k : Int} (C : am_Cx p l s m args meth c G z) (dg : decode (am_by z) pc = .ok (.iconst k, 1)) {w} (h : am_st call z (.iconst k) pc ls st M X = some (.inl w)) (K : am_Sm p l e R s m args below meth c Q G z X0 w) : am_Sm p l e R s m args below meth c Q G z X0 (pc, ls, st, M, X) := by
  obtain ⟨hx, hb, hml, hown, hts, hK, hU, hN, hX, hbb, hlk, hst, hini⟩ := C
  simp only [am_st, am_ex] at h
  intro H locs lsc hH hS hl
  cases h
  exact lv_iconst hx hb dg rfl (K H locs lsc hH hS hl)
theorem am_s_bipush {k : Int} (C : am_Cx p l s m args meth c G z) (dg : decode (am_by z) pc = .ok (.bipush k, 2)) {w} (h : am_st call z (.bipush k) pc ls st M X = some (.inl w)) (K : am_Sm p l e R s m args below meth c Q G z X0 w) : am_Sm p l e R s m args below meth c Q G z X0 (pc, ls, st, M, X) := by
  obtain ⟨hx, hb, hml, hown, hts, hK, hU, hN, hX, hbb, hlk, hst, hini⟩ := C
  simp only [am_st, am_ex] at h
  intro H locs lsc hH hS hl
  cases h
  exact lv_bipush hx hb dg rfl (K H locs lsc hH hS hl)
theorem am_s_sipush {k : Int} (C : am_Cx p l s m args meth c G z) (dg : decode (am_by z) pc = .ok (.sipush k, 3)) {w} (h : am_st call z (.sipush k) pc ls st M X = some (.inl w)) (K : am_Sm p l e R s m args below meth c Q G z X0 w) : am_Sm p l e R s m args below meth c Q G z X0 (pc, ls, st, M, X) := by
  obtain ⟨hx, hb, hml, hown, hts, hK, hU, hN, hX, hbb, hlk, hst, hini⟩ := C
  simp only [am_st, am_ex] at h
  intro H locs lsc hH hS hl
  cases h
  exact lv_sipush hx hb dg rfl (K H locs lsc hH hS hl)
theorem am_s_lconst {k : Fin 2} (C : am_Cx p l s m args meth c G z) (dg : decode (am_by z) pc = .ok (.lconst k, 1)) {w} (h : am_st call z (.lconst k) pc ls st M X = some (.inl w)) (K : am_Sm p l e R s m args below meth c Q G z X0 w) : am_Sm p l e R s m args below meth c Q G z X0 (pc, ls, st, M, X) := by
  obtain ⟨hx, hb, hml, hown, hts, hK, hU, hN, hX, hbb, hlk, hst, hini⟩ := C
  simp only [am_st, am_ex] at h
  intro H locs lsc hH hS hl
  cases h
  exact lv_lconst hx hb dg rfl (K H locs lsc hH hS hl)
theorem am_s_ldc {ix : Nat} (C : am_Cx p l s m args meth c G z) (dg : decode (am_by z) pc = .ok (.ldc ix, 2)) {w} (h : am_st call z (.ldc ix) pc ls st M X = some (.inl w)) (K : am_Sm p l e R s m args below meth c Q G z X0 w) : am_Sm p l e R s m args below meth c Q G z X0 (pc, ls, st, M, X) := by
  obtain ⟨hx, hb, hml, hown, hts, hK, hU, hN, hX, hbb, hlk, hst, hini⟩ := C
  simp only [am_st, am_ex] at h
  intro H locs lsc hH hS hl
  rcases am_o2_i h with ⟨v, hk, h⟩ | ⟨hk, h⟩
  · cases h
    obtain ⟨i, hi⟩ := am_al2_in am_kc_ok _ (am_look_in hk)
    exact lv_ldc hx hb hown (hts _ (am_at_in hi)) dg (K H locs lsc hH hS hl)
  · rcases am_o2_i h with ⟨v, hk, h⟩ | ⟨hk, h⟩
    · cases h
      obtain ⟨i, hi⟩ := am_al2_in am_kf_ok _ (am_look_in hk)
      exact lv_ldcf hx hb hown (hts _ (am_at_in hi)) dg (K H locs lsc hH hS hl)
    · cases h
theorem am_s_ldc2_w {ix : Nat} (C : am_Cx p l s m args meth c G z) (dg : decode (am_by z) pc = .ok (.ldc2_w ix, 3)) {w} (h : am_st call z (.ldc2_w ix) pc ls st M X = some (.inl w)) (K : am_Sm p l e R s m args below meth c Q G z X0 w) : am_Sm p l e R s m args below meth c Q G z X0 (pc, ls, st, M, X) := by
  obtain ⟨hx, hb, hml, hown, hts, hK, hU, hN, hX, hbb, hlk, hst, hini⟩ := C
  simp only [am_st, am_ex] at h
  intro H locs lsc hH hS hl
  rcases am_o2_i h with ⟨v, hk, h⟩ | ⟨hk, h⟩
  · cases h
    obtain ⟨i, hi⟩ := am_al2_in am_kl_ok _ (am_look_in hk)
    exact lv_ldc2 hx hb hown (hts _ (am_at_in hi)) dg (K H locs lsc hH hS hl)
  · rcases am_o2_i h with ⟨v, hk, h⟩ | ⟨hk, h⟩
    · cases h
      obtain ⟨i, hi⟩ := am_al2_in am_kd2_ok _ (am_look_in hk)
      exact lv_ldc2d hx hb hown (hts _ (am_at_in hi)) dg (K H locs lsc hH hS hl)
    · cases h
theorem am_s_lload_n {j : Fin 4} (C : am_Cx p l s m args meth c G z) (dg : decode (am_by z) pc = .ok (.lload_n j, 1)) {w} (h : am_st call z (.lload_n j) pc ls st M X = some (.inl w)) (K : am_Sm p l e R s m args below meth c Q G z X0 w) : am_Sm p l e R s m args below meth c Q G z X0 (pc, ls, st, M, X) := by
  obtain ⟨hx, hb, hml, hown, hts, hK, hU, hN, hX, hbb, hlk, hst, hini⟩ := C
  simp only [am_st, am_ex] at h
  intro H locs lsc hH hS hl
  obtain ⟨v, g1, h_1⟩ := am_get_i h
  obtain ⟨x, rfl, h_2⟩ := am_asJ_i h_1
  cases h_2
  exact lv_lload_n hx hb dg rfl (hl.at g1) (K H locs lsc hH hS hl)
theorem am_s_lload {j : Nat} (C : am_Cx p l s m args meth c G z) (dg : decode (am_by z) pc = .ok (.lload j, 2)) {w} (h : am_st call z (.lload j) pc ls st M X = some (.inl w)) (K : am_Sm p l e R s m args below meth c Q G z X0 w) : am_Sm p l e R s m args below meth c Q G z X0 (pc, ls, st, M, X) := by
  obtain ⟨hx, hb, hml, hown, hts, hK, hU, hN, hX, hbb, hlk, hst, hini⟩ := C
  simp only [am_st, am_ex] at h
  intro H locs lsc hH hS hl
  obtain ⟨v, g1, h_1⟩ := am_get_i h
  obtain ⟨x, rfl, h_2⟩ := am_asJ_i h_1
  cases h_2
  exact lv_lload hx hb dg (hl.at g1) (K H locs lsc hH hS hl)
theorem am_s_lstore_n {j : Fin 4} (C : am_Cx p l s m args meth c G z) (dg : decode (am_by z) pc = .ok (.lstore_n j, 1)) {w} (h : am_st call z (.lstore_n j) pc ls st M X = some (.inl w)) (K : am_Sm p l e R s m args below meth c Q G z X0 w) : am_Sm p l e R s m args below meth c Q G z X0 (pc, ls, st, M, X) := by
  obtain ⟨hx, hb, hml, hown, hts, hK, hU, hN, hX, hbb, hlk, hst, hini⟩ := C
  simp only [am_st, am_ex] at h
  intro H locs lsc hH hS hl
  obtain ⟨x, st1, rfl, h_1⟩ := am_popJ_i h
  obtain ⟨hj, h_2⟩ := am_if_i h_1
  cases h_2
  exact lv_lstore_n hx hb dg rfl hl.1 (by rw [← hl.2]; exact hj) rfl (fun lsc' hl' => K H locs lsc' hH hS (am_lv.sub hl' (by show (am_put2 _ _ _).length = _; rw [am_put2, List.length_set, am_put_len]; exact hl.2) (am_put2_sub hj _)))
theorem am_s_lstore {j : Nat} (C : am_Cx p l s m args meth c G z) (dg : decode (am_by z) pc = .ok (.lstore j, 2)) {w} (h : am_st call z (.lstore j) pc ls st M X = some (.inl w)) (K : am_Sm p l e R s m args below meth c Q G z X0 w) : am_Sm p l e R s m args below meth c Q G z X0 (pc, ls, st, M, X) := by
  obtain ⟨hx, hb, hml, hown, hts, hK, hU, hN, hX, hbb, hlk, hst, hini⟩ := C
  simp only [am_st, am_ex] at h
  intro H locs lsc hH hS hl
  obtain ⟨x, st1, rfl, h_1⟩ := am_popJ_i h
  obtain ⟨hj, h_2⟩ := am_if_i h_1
  cases h_2
  exact lv_lstore hx hb dg hl.1 (by rw [← hl.2]; exact hj) rfl (fun lsc' hl' => K H locs lsc' hH hS (am_lv.sub hl' (by show (am_put2 _ _ _).length = _; rw [am_put2, List.length_set, am_put_len]; exact hl.2) (am_put2_sub hj _)))
theorem am_s_ladd  (C : am_Cx p l s m args meth c G z) (dg : decode (am_by z) pc = .ok (.ladd, 1)) {w} (h : am_st call z (.ladd) pc ls st M X = some (.inl w)) (K : am_Sm p l e R s m args below meth c Q G z X0 w) : am_Sm p l e R s m args below meth c Q G z X0 (pc, ls, st, M, X) := by
  obtain ⟨hx, hb, hml, hown, hts, hK, hU, hN, hX, hbb, hlk, hst, hini⟩ := C
  simp only [am_st, am_ex] at h
  intro H locs lsc hH hS hl
  obtain ⟨y, st1, rfl, h_1⟩ := am_popJ_i h
  obtain ⟨x, st2, rfl, h_2⟩ := am_popJ_i h_1
  cases h_2
  exact lv_ladd hx hb dg (K H locs lsc hH hS hl)
theorem am_s_lmul  (C : am_Cx p l s m args meth c G z) (dg : decode (am_by z) pc = .ok (.lmul, 1)) {w} (h : am_st call z (.lmul) pc ls st M X = some (.inl w)) (K : am_Sm p l e R s m args below meth c Q G z X0 w) : am_Sm p l e R s m args below meth c Q G z X0 (pc, ls, st, M, X) := by
  obtain ⟨hx, hb, hml, hown, hts, hK, hU, hN, hX, hbb, hlk, hst, hini⟩ := C
  simp only [am_st, am_ex] at h
  intro H locs lsc hH hS hl
  obtain ⟨y, st1, rfl, h_1⟩ := am_popJ_i h
  obtain ⟨x, st2, rfl, h_2⟩ := am_popJ_i h_1
  cases h_2
  exact lv_lmul hx hb dg (K H locs lsc hH hS hl)
theorem am_s_ixor  (C : am_Cx p l s m args meth c G z) (dg : decode (am_by z) pc = .ok (.ixor, 1)) {w} (h : am_st call z (.ixor) pc ls st M X = some (.inl w)) (K : am_Sm p l e R s m args below meth c Q G z X0 w) : am_Sm p l e R s m args below meth c Q G z X0 (pc, ls, st, M, X) := by
  obtain ⟨hx, hb, hml, hown, hts, hK, hU, hN, hX, hbb, hlk, hst, hini⟩ := C
  simp only [am_st, am_ex] at h
  intro H locs lsc hH hS hl
  obtain ⟨y, st1, rfl, h_1⟩ := am_popI_i h
  obtain ⟨x, st2, rfl, h_2⟩ := am_popI_i h_1
  cases h_2
  exact lv_ixor hx hb dg (K H locs lsc hH hS hl)
theorem am_s_iadd  (C : am_Cx p l s m args meth c G z) (dg : decode (am_by z) pc = .ok (.iadd, 1)) {w} (h : am_st call z (.iadd) pc ls st M X = some (.inl w)) (K : am_Sm p l e R s m args below meth c Q G z X0 w) : am_Sm p l e R s m args below meth c Q G z X0 (pc, ls, st, M, X) := by
  obtain ⟨hx, hb, hml, hown, hts, hK, hU, hN, hX, hbb, hlk, hst, hini⟩ := C
  simp only [am_st, am_ex] at h
  intro H locs lsc hH hS hl
  obtain ⟨y, st1, rfl, h_1⟩ := am_popI_i h
  obtain ⟨x, st2, rfl, h_2⟩ := am_popI_i h_1
  cases h_2
  exact lv_iadd hx hb dg (K H locs lsc hH hS hl)
theorem am_s_isub  (C : am_Cx p l s m args meth c G z) (dg : decode (am_by z) pc = .ok (.isub, 1)) {w} (h : am_st call z (.isub) pc ls st M X = some (.inl w)) (K : am_Sm p l e R s m args below meth c Q G z X0 w) : am_Sm p l e R s m args below meth c Q G z X0 (pc, ls, st, M, X) := by
  obtain ⟨hx, hb, hml, hown, hts, hK, hU, hN, hX, hbb, hlk, hst, hini⟩ := C
  simp only [am_st, am_ex] at h
  intro H locs lsc hH hS hl
  obtain ⟨y, st1, rfl, h_1⟩ := am_popI_i h
  obtain ⟨x, st2, rfl, h_2⟩ := am_popI_i h_1
  cases h_2
  exact lv_isub hx hb dg (K H locs lsc hH hS hl)
theorem am_s_imul  (C : am_Cx p l s m args meth c G z) (dg : decode (am_by z) pc = .ok (.imul, 1)) {w} (h : am_st call z (.imul) pc ls st M X = some (.inl w)) (K : am_Sm p l e R s m args below meth c Q G z X0 w) : am_Sm p l e R s m args below meth c Q G z X0 (pc, ls, st, M, X) := by
  obtain ⟨hx, hb, hml, hown, hts, hK, hU, hN, hX, hbb, hlk, hst, hini⟩ := C
  simp only [am_st, am_ex] at h
  intro H locs lsc hH hS hl
  obtain ⟨y, st1, rfl, h_1⟩ := am_popI_i h
  obtain ⟨x, st2, rfl, h_2⟩ := am_popI_i h_1
  cases h_2
  exact lv_imul hx hb dg (K H locs lsc hH hS hl)
theorem am_s_iand  (C : am_Cx p l s m args meth c G z) (dg : decode (am_by z) pc = .ok (.iand, 1)) {w} (h : am_st call z (.iand) pc ls st M X = some (.inl w)) (K : am_Sm p l e R s m args below meth c Q G z X0 w) : am_Sm p l e R s m args below meth c Q G z X0 (pc, ls, st, M, X) := by
  obtain ⟨hx, hb, hml, hown, hts, hK, hU, hN, hX, hbb, hlk, hst, hini⟩ := C
  simp only [am_st, am_ex] at h
  intro H locs lsc hH hS hl
  obtain ⟨y, st1, rfl, h_1⟩ := am_popI_i h
  obtain ⟨x, st2, rfl, h_2⟩ := am_popI_i h_1
  cases h_2
  exact lv_iand hx hb dg (K H locs lsc hH hS hl)
theorem am_s_ior  (C : am_Cx p l s m args meth c G z) (dg : decode (am_by z) pc = .ok (.ior, 1)) {w} (h : am_st call z (.ior) pc ls st M X = some (.inl w)) (K : am_Sm p l e R s m args below meth c Q G z X0 w) : am_Sm p l e R s m args below meth c Q G z X0 (pc, ls, st, M, X) := by
  obtain ⟨hx, hb, hml, hown, hts, hK, hU, hN, hX, hbb, hlk, hst, hini⟩ := C
  simp only [am_st, am_ex] at h
  intro H locs lsc hH hS hl
  obtain ⟨y, st1, rfl, h_1⟩ := am_popI_i h
  obtain ⟨x, st2, rfl, h_2⟩ := am_popI_i h_1
  cases h_2
  exact lv_ior hx hb dg (K H locs lsc hH hS hl)
theorem am_s_ishl  (C : am_Cx p l s m args meth c G z) (dg : decode (am_by z) pc = .ok (.ishl, 1)) {w} (h : am_st call z (.ishl) pc ls st M X = some (.inl w)) (K : am_Sm p l e R s m args below meth c Q G z X0 w) : am_Sm p l e R s m args below meth c Q G z X0 (pc, ls, st, M, X) := by
  obtain ⟨hx, hb, hml, hown, hts, hK, hU, hN, hX, hbb, hlk, hst, hini⟩ := C
  simp only [am_st, am_ex] at h
  intro H locs lsc hH hS hl
  obtain ⟨y, st1, rfl, h_1⟩ := am_popI_i h
  obtain ⟨x, st2, rfl, h_2⟩ := am_popI_i h_1
  cases h_2
  exact lv_ishl hx hb dg (K H locs lsc hH hS hl)
theorem am_s_ishr  (C : am_Cx p l s m args meth c G z) (dg : decode (am_by z) pc = .ok (.ishr, 1)) {w} (h : am_st call z (.ishr) pc ls st M X = some (.inl w)) (K : am_Sm p l e R s m args below meth c Q G z X0 w) : am_Sm p l e R s m args below meth c Q G z X0 (pc, ls, st, M, X) := by
  obtain ⟨hx, hb, hml, hown, hts, hK, hU, hN, hX, hbb, hlk, hst, hini⟩ := C
  simp only [am_st, am_ex] at h
  intro H locs lsc hH hS hl
  obtain ⟨y, st1, rfl, h_1⟩ := am_popI_i h
  obtain ⟨x, st2, rfl, h_2⟩ := am_popI_i h_1
  cases h_2
  exact lv_ishr hx hb dg (K H locs lsc hH hS hl)
theorem am_s_idiv  (C : am_Cx p l s m args meth c G z) (dg : decode (am_by z) pc = .ok (.idiv, 1)) {w} (h : am_st call z (.idiv) pc ls st M X = some (.inl w)) (K : am_Sm p l e R s m args below meth c Q G z X0 w) : am_Sm p l e R s m args below meth c Q G z X0 (pc, ls, st, M, X) := by
  obtain ⟨hx, hb, hml, hown, hts, hK, hU, hN, hX, hbb, hlk, hst, hini⟩ := C
  simp only [am_st, am_ex] at h
  intro H locs lsc hH hS hl
  obtain ⟨y, st1, rfl, h_1⟩ := am_popI_i h
  obtain ⟨x, st2, rfl, h_2⟩ := am_popI_i h_1
  obtain ⟨hne, h_3⟩ := am_ifn_i h_2
  cases h_3
  exact lv_idiv hx hb dg hne (K H locs lsc hH hS hl)
theorem am_s_irem  (C : am_Cx p l s m args meth c G z) (dg : decode (am_by z) pc = .ok (.irem, 1)) {w} (h : am_st call z (.irem) pc ls st M X = some (.inl w)) (K : am_Sm p l e R s m args below meth c Q G z X0 w) : am_Sm p l e R s m args below meth c Q G z X0 (pc, ls, st, M, X) := by
  obtain ⟨hx, hb, hml, hown, hts, hK, hU, hN, hX, hbb, hlk, hst, hini⟩ := C
  simp only [am_st, am_ex] at h
  intro H locs lsc hH hS hl
  obtain ⟨y, st1, rfl, h_1⟩ := am_popI_i h
  obtain ⟨x, st2, rfl, h_2⟩ := am_popI_i h_1
  obtain ⟨hne, h_3⟩ := am_ifn_i h_2
  cases h_3
  exact lv_irem hx hb dg hne (K H locs lsc hH hS hl)
theorem am_s_i2l  (C : am_Cx p l s m args meth c G z) (dg : decode (am_by z) pc = .ok (.i2l, 1)) {w} (h : am_st call z (.i2l) pc ls st M X = some (.inl w)) (K : am_Sm p l e R s m args below meth c Q G z X0 w) : am_Sm p l e R s m args below meth c Q G z X0 (pc, ls, st, M, X) := by
  obtain ⟨hx, hb, hml, hown, hts, hK, hU, hN, hX, hbb, hlk, hst, hini⟩ := C
  simp only [am_st, am_ex] at h
  intro H locs lsc hH hS hl
  obtain ⟨x, st1, rfl, h_1⟩ := am_popI_i h
  cases h_1
  exact lv_i2l hx hb dg rfl (K H locs lsc hH hS hl)
theorem am_s_i2c  (C : am_Cx p l s m args meth c G z) (dg : decode (am_by z) pc = .ok (.i2c, 1)) {w} (h : am_st call z (.i2c) pc ls st M X = some (.inl w)) (K : am_Sm p l e R s m args below meth c Q G z X0 w) : am_Sm p l e R s m args below meth c Q G z X0 (pc, ls, st, M, X) := by
  obtain ⟨hx, hb, hml, hown, hts, hK, hU, hN, hX, hbb, hlk, hst, hini⟩ := C
  simp only [am_st, am_ex] at h
  intro H locs lsc hH hS hl
  obtain ⟨x, st1, rfl, h_1⟩ := am_popI_i h
  cases h_1
  exact lv_i2c hx hb dg rfl (K H locs lsc hH hS hl)
theorem am_s_i2f  (C : am_Cx p l s m args meth c G z) (dg : decode (am_by z) pc = .ok (.i2f, 1)) {w} (h : am_st call z (.i2f) pc ls st M X = some (.inl w)) (K : am_Sm p l e R s m args below meth c Q G z X0 w) : am_Sm p l e R s m args below meth c Q G z X0 (pc, ls, st, M, X) := by
  obtain ⟨hx, hb, hml, hown, hts, hK, hU, hN, hX, hbb, hlk, hst, hini⟩ := C
  simp only [am_st, am_ex] at h
  intro H locs lsc hH hS hl
  obtain ⟨x, st1, rfl, h_1⟩ := am_popI_i h
  cases h_1
  exact lv_i2f hx hb dg (K H locs lsc hH hS hl)
theorem am_s_i2d  (C : am_Cx p l s m args meth c G z) (dg : decode (am_by z) pc = .ok (.i2d, 1)) {w} (h : am_st call z (.i2d) pc ls st M X = some (.inl w)) (K : am_Sm p l e R s m args below meth c Q G z X0 w) : am_Sm p l e R s m args below meth c Q G z X0 (pc, ls, st, M, X) := by
  obtain ⟨hx, hb, hml, hown, hts, hK, hU, hN, hX, hbb, hlk, hst, hini⟩ := C
  simp only [am_st, am_ex] at h
  intro H locs lsc hH hS hl
  obtain ⟨x, st1, rfl, h_1⟩ := am_popI_i h
  cases h_1
  exact lv_i2d hx hb dg (K H locs lsc hH hS hl)
theorem am_s_f2d  (C : am_Cx p l s m args meth c G z) (dg : decode (am_by z) pc = .ok (.f2d, 1)) {w} (h : am_st call z (.f2d) pc ls st M X = some (.inl w)) (K : am_Sm p l e R s m args below meth c Q G z X0 w) : am_Sm p l e R s m args below meth c Q G z X0 (pc, ls, st, M, X) := by
  obtain ⟨hx, hb, hml, hown, hts, hK, hU, hN, hX, hbb, hlk, hst, hini⟩ := C
  simp only [am_st, am_ex] at h
  intro H locs lsc hH hS hl
  obtain ⟨x, st1, rfl, h_1⟩ := am_popF_i h
  obtain ⟨hne, h_2⟩ := am_if_i h_1
  cases h_2
  exact lv_f2d hx hb dg hne (K H locs lsc hH hS hl)
theorem am_s_fdiv  (C : am_Cx p l s m args meth c G z) (dg : decode (am_by z) pc = .ok (.fdiv, 1)) {w} (h : am_st call z (.fdiv) pc ls st M X = some (.inl w)) (K : am_Sm p l e R s m args below meth c Q G z X0 w) : am_Sm p l e R s m args below meth c Q G z X0 (pc, ls, st, M, X) := by
  obtain ⟨hx, hb, hml, hown, hts, hK, hU, hN, hX, hbb, hlk, hst, hini⟩ := C
  simp only [am_st, am_ex] at h
  intro H locs lsc hH hS hl
  obtain ⟨y, st1, rfl, h_1⟩ := am_popF_i h
  obtain ⟨x, st2, rfl, h_2⟩ := am_popF_i h_1
  obtain ⟨hne, h_3⟩ := am_if_i h_2
  cases h_3
  exact lv_fdiv hx hb dg hne (K H locs lsc hH hS hl)
theorem am_s_ddiv  (C : am_Cx p l s m args meth c G z) (dg : decode (am_by z) pc = .ok (.ddiv, 1)) {w} (h : am_st call z (.ddiv) pc ls st M X = some (.inl w)) (K : am_Sm p l e R s m args below meth c Q G z X0 w) : am_Sm p l e R s m args below meth c Q G z X0 (pc, ls, st, M, X) := by
  obtain ⟨hx, hb, hml, hown, hts, hK, hU, hN, hX, hbb, hlk, hst, hini⟩ := C
  simp only [am_st, am_ex] at h
  intro H locs lsc hH hS hl
  obtain ⟨y, st1, rfl, h_1⟩ := am_popD_i h
  obtain ⟨x, st2, rfl, h_2⟩ := am_popD_i h_1
  obtain ⟨hne, h_3⟩ := am_if_i h_2
  cases h_3
  exact lv_ddiv hx hb dg hne (K H locs lsc hH hS hl)
theorem am_s_lcmp  (C : am_Cx p l s m args meth c G z) (dg : decode (am_by z) pc = .ok (.lcmp, 1)) {w} (h : am_st call z (.lcmp) pc ls st M X = some (.inl w)) (K : am_Sm p l e R s m args below meth c Q G z X0 w) : am_Sm p l e R s m args below meth c Q G z X0 (pc, ls, st, M, X) := by
  obtain ⟨hx, hb, hml, hown, hts, hK, hU, hN, hX, hbb, hlk, hst, hini⟩ := C
  simp only [am_st, am_ex] at h
  intro H locs lsc hH hS hl
  obtain ⟨y, st1, rfl, h_1⟩ := am_popJ_i h
  obtain ⟨x, st2, rfl, h_2⟩ := am_popJ_i h_1
  cases h_2
  exact W.lcmp hx hb dg (K H locs lsc hH hS hl)
theorem am_s_fcmp {op : CmpOp} (C : am_Cx p l s m args meth c G z) (dg : decode (am_by z) pc = .ok (.fcmp op, 1)) {w} (h : am_st call z (.fcmp op) pc ls st M X = some (.inl w)) (K : am_Sm p l e R s m args below meth c Q G z X0 w) : am_Sm p l e R s m args below meth c Q G z X0 (pc, ls, st, M, X) := by
  obtain ⟨hx, hb, hml, hown, hts, hK, hU, hN, hX, hbb, hlk, hst, hini⟩ := C
  simp only [am_st, am_ex] at h
  intro H locs lsc hH hS hl
  obtain ⟨y, st1, rfl, h_1⟩ := am_popF_i h
  obtain ⟨x, st2, rfl, h_2⟩ := am_popF_i h_1
  cases h_2
  exact lv_fcmp hx hb dg (K H locs lsc hH hS hl)
theorem am_s_dcmp {op : CmpOp} (C : am_Cx p l s m args meth c G z) (dg : decode (am_by z) pc = .ok (.dcmp op, 1)) {w} (h : am_st call z (.dcmp op) pc ls st M X = some (.inl w)) (K : am_Sm p l e R s m args below meth c Q G z X0 w) : am_Sm p l e R s m args below meth c Q G z X0 (pc, ls, st, M, X) := by
  obtain ⟨hx, hb, hml, hown, hts, hK, hU, hN, hX, hbb, hlk, hst, hini⟩ := C
  simp only [am_st, am_ex] at h
  intro H locs lsc hH hS hl
  obtain ⟨y, st1, rfl, h_1⟩ := am_popD_i h
  obtain ⟨x, st2, rfl, h_2⟩ := am_popD_i h_1
  cases h_2
  exact lv_dcmp hx hb dg (K H locs lsc hH hS hl)
theorem am_s_dup  (C : am_Cx p l s m args meth c G z) (dg : decode (am_by z) pc = .ok (.dup, 1)) {w} (h : am_st call z (.dup) pc ls st M X = some (.inl w)) (K : am_Sm p l e R s m args below meth c Q G z X0 w) : am_Sm p l e R s m args below meth c Q G z X0 (pc, ls, st, M, X) := by
  obtain ⟨hx, hb, hml, hown, hts, hK, hU, hN, hX, hbb, hlk, hst, hini⟩ := C
  simp only [am_st, am_ex] at h
  intro H locs lsc hH hS hl
  obtain ⟨v, st1, rfl, c1, h_1⟩ := am_pop1_i h
  cases h_1
  exact lv_dup hx hb dg c1.cat (K H locs lsc hH hS hl)
theorem am_s_pop  (C : am_Cx p l s m args meth c G z) (dg : decode (am_by z) pc = .ok (.pop, 1)) {w} (h : am_st call z (.pop) pc ls st M X = some (.inl w)) (K : am_Sm p l e R s m args below meth c Q G z X0 w) : am_Sm p l e R s m args below meth c Q G z X0 (pc, ls, st, M, X) := by
  obtain ⟨hx, hb, hml, hown, hts, hK, hU, hN, hX, hbb, hlk, hst, hini⟩ := C
  simp only [am_st, am_ex] at h
  intro H locs lsc hH hS hl
  obtain ⟨v, st1, rfl, c1, h_1⟩ := am_pop1_i h
  cases h_1
  exact lv_pop hx hb dg c1.cat (K H locs lsc hH hS hl)
theorem am_s_dup2  (C : am_Cx p l s m args meth c G z) (dg : decode (am_by z) pc = .ok (.dup2, 1)) {w} (h : am_st call z (.dup2) pc ls st M X = some (.inl w)) (K : am_Sm p l e R s m args below meth c Q G z X0 w) : am_Sm p l e R s m args below meth c Q G z X0 (pc, ls, st, M, X) := by
  obtain ⟨hx, hb, hml, hown, hts, hK, hU, hN, hX, hbb, hlk, hst, hini⟩ := C
  simp only [am_st, am_ex] at h
  intro H locs lsc hH hS hl
  obtain ⟨v, st1, rfl, c1, h_1⟩ := am_pop1_i h
  obtain ⟨w, st2, rfl, c2, h_2⟩ := am_pop1_i h_1
  cases h_2
  exact lv_dup2_11 hx hb dg c1.cat c2.cat (K H locs lsc hH hS hl)
theorem am_s_dup_x1  (C : am_Cx p l s m args meth c G z) (dg : decode (am_by z) pc = .ok (.dup_x1, 1)) {w} (h : am_st call z (.dup_x1) pc ls st M X = some (.inl w)) (K : am_Sm p l e R s m args below meth c Q G z X0 w) : am_Sm p l e R s m args below meth c Q G z X0 (pc, ls, st, M, X) := by
  obtain ⟨hx, hb, hml, hown, hts, hK, hU, hN, hX, hbb, hlk, hst, hini⟩ := C
  simp only [am_st, am_ex] at h
  intro H locs lsc hH hS hl
  obtain ⟨v, st1, rfl, c1, h_1⟩ := am_pop1_i h
  obtain ⟨w, st2, rfl, c2, h_2⟩ := am_pop1_i h_1
  cases h_2
  exact lv_dup_x1 hx hb dg c1.cat c2.cat (K H locs lsc hH hS hl)
theorem am_s_dup_x2  (C : am_Cx p l s m args meth c G z) (dg : decode (am_by z) pc = .ok (.dup_x2, 1)) {w} (h : am_st call z (.dup_x2) pc ls st M X = some (.inl w)) (K : am_Sm p l e R s m args below meth c Q G z X0 w) : am_Sm p l e R s m args below meth c Q G z X0 (pc, ls, st, M, X) := by
  obtain ⟨hx, hb, hml, hown, hts, hK, hU, hN, hX, hbb, hlk, hst, hini⟩ := C
  simp only [am_st, am_ex] at h
  intro H locs lsc hH hS hl
  obtain ⟨v, st1, rfl, c1, h_1⟩ := am_pop1_i h
  obtain ⟨w, st2, rfl, c2, h_2⟩ := am_pop1_i h_1
  obtain ⟨u, st3, rfl, c3, h_3⟩ := am_pop1_i h_2
  cases h_3
  exact lv_dup_x2 hx hb dg c1.cat c2.cat c3.cat (K H locs lsc hH hS hl)
theorem am_s_goto {k : Int} (C : am_Cx p l s m args meth c G z) (dg : decode (am_by z) pc = .ok (.goto k, 3)) {w} (h : am_st call z (.goto k) pc ls st M X = some (.inl w)) (K : am_Sm p l e R s m args below meth c Q G z X0 w) : am_Sm p l e R s m args below meth c Q G z X0 (pc, ls, st, M, X) := by
  obtain ⟨hx, hb, hml, hown, hts, hK, hU, hN, hX, hbb, hlk, hst, hini⟩ := C
  simp only [am_st, am_ex] at h
  intro H locs lsc hH hS hl
  obtain ⟨t, ht, h_1⟩ := am_j_i h
  cases h_1
  exact lv_goto hx hb dg ht (K H locs lsc hH hS hl)
theorem am_s_if_eq {k : Int} (C : am_Cx p l s m args meth c G z) (dg : decode (am_by z) pc = .ok (.ifCond .eq k, 3)) {w} (h : am_st call z (.ifCond .eq k) pc ls st M X = some (.inl w)) (K : am_Sm p l e R s m args below meth c Q G z X0 w) : am_Sm p l e R s m args below meth c Q G z X0 (pc, ls, st, M, X) := by
  obtain ⟨hx, hb, hml, hown, hts, hK, hU, hN, hX, hbb, hlk, hst, hini⟩ := C
  simp only [am_st, am_ex] at h
  intro H locs lsc hH hS hl
  obtain ⟨x, st1, rfl, h_1⟩ := am_popI_i h
  obtain ⟨t, ht, h_2⟩ := am_j_i h_1
  split at h_2
  · rename_i hc; cases h_2
    exact lv_if_eq hx hb dg ht (fun _ => (K H locs lsc hH hS hl)) (fun n => by first | exact absurd hc n | exact absurd n hc | exact absurd hc n | exact absurd n hc)
  · rename_i hc; cases h_2
    exact lv_if_eq hx hb dg ht (fun n => by first | exact absurd hc n | exact absurd n hc | exact absurd hc n | exact absurd n hc) (fun _ => (K H locs lsc hH hS hl))
theorem am_s_if_ne {k : Int} (C : am_Cx p l s m args meth c G z) (dg : decode (am_by z) pc = .ok (.ifCond .ne k, 3)) {w} (h : am_st call z (.ifCond .ne k) pc ls st M X = some (.inl w)) (K : am_Sm p l e R s m args below meth c Q G z X0 w) : am_Sm p l e R s m args below meth c Q G z X0 (pc, ls, st, M, X) := by
  obtain ⟨hx, hb, hml, hown, hts, hK, hU, hN, hX, hbb, hlk, hst, hini⟩ := C
  simp only [am_st, am_ex] at h
  intro H locs lsc hH hS hl
  obtain ⟨x, st1, rfl, h_1⟩ := am_popI_i h
  obtain ⟨t, ht, h_2⟩ := am_j_i h_1
  split at h_2
  · rename_i hc; cases h_2
    exact lv_if_ne hx hb dg ht (fun n => by first | exact absurd hc n | exact absurd n hc | exact absurd hc n | exact absurd n hc) (fun _ => (K H locs lsc hH hS hl))
  · rename_i hc; cases h_2
    exact lv_if_ne hx hb dg ht (fun _ => (K H locs lsc hH hS hl)) (fun n => by first | exact absurd hc n | exact absurd n hc | exact absurd hc n | exact absurd n hc)
theorem am_s_if_lt {k : Int} (C : am_Cx p l s m args meth c G z) (dg : decode (am_by z) pc = .ok (.ifCond .lt k, 3)) {w} (h : am_st call z (.ifCond .lt k) pc ls st M X = some (.inl w)) (K : am_Sm p l e R s m args below meth c Q G z X0 w) : am_Sm p l e R s m args below meth c Q G z X0 (pc, ls, st, M, X) := by
  obtain ⟨hx, hb, hml, hown, hts, hK, hU, hN, hX, hbb, hlk, hst, hini⟩ := C
  simp only [am_st, am_ex] at h
  intro H locs lsc hH hS hl
  obtain ⟨x, st1, rfl, h_1⟩ := am_popI_i h
  obtain ⟨t, ht, h_2⟩ := am_j_i h_1
  split at h_2
  · rename_i hc; cases h_2
    exact lv_if_lt hx hb dg ht (fun _ => (K H locs lsc hH hS hl)) (fun n => by first | exact absurd hc n | exact absurd n hc | exact absurd hc n | exact absurd n hc)
  · rename_i hc; cases h_2
    exact lv_if_lt hx hb dg ht (fun n => by first | exact absurd hc n | exact absurd n hc | exact absurd hc n | exact absurd n hc) (fun _ => (K H locs lsc hH hS hl))
theorem am_s_if_ge {k : Int} (C : am_Cx p l s m args meth c G z) (dg : decode (am_by z) pc = .ok (.ifCond .ge k, 3)) {w} (h : am_st call z (.ifCond .ge k) pc ls st M X = some (.inl w)) (K : am_Sm p l e R s m args below meth c Q G z X0 w) : am_Sm p l e R s m args below meth c Q G z X0 (pc, ls, st, M, X) := by
  obtain ⟨hx, hb, hml, hown, hts, hK, hU, hN, hX, hbb, hlk, hst, hini⟩ := C
  simp only [am_st, am_ex] at h
  intro H locs lsc hH hS hl
  obtain ⟨x, st1, rfl, h_1⟩ := am_popI_i h
  obtain ⟨t, ht, h_2⟩ := am_j_i h_1
  split at h_2
  · rename_i hc; cases h_2
    exact lv_if_ge hx hb dg ht (fun n => by first | exact absurd hc n | exact absurd n hc | exact absurd (Int32.not_le.mpr hc) n | exact absurd n (Int32.not_le.mpr hc)) (fun _ => (K H locs lsc hH hS hl))
  · rename_i hc; cases h_2
    exact lv_if_ge hx hb dg ht (fun _ => (K H locs lsc hH hS hl)) (fun n => by first | exact absurd hc n | exact absurd n hc | exact absurd (Int32.not_lt.mp hc) n | exact absurd n (Int32.not_lt.mp hc))
theorem am_s_if_gt {k : Int} (C : am_Cx p l s m args meth c G z) (dg : decode (am_by z) pc = .ok (.ifCond .gt k, 3)) {w} (h : am_st call z (.ifCond .gt k) pc ls st M X = some (.inl w)) (K : am_Sm p l e R s m args below meth c Q G z X0 w) : am_Sm p l e R s m args below meth c Q G z X0 (pc, ls, st, M, X) := by
  obtain ⟨hx, hb, hml, hown, hts, hK, hU, hN, hX, hbb, hlk, hst, hini⟩ := C
  simp only [am_st, am_ex] at h
  intro H locs lsc hH hS hl
  obtain ⟨x, st1, rfl, h_1⟩ := am_popI_i h
  obtain ⟨t, ht, h_2⟩ := am_j_i h_1
  split at h_2
  · rename_i hc; cases h_2
    exact lv_if_gt hx hb dg ht (fun _ => (K H locs lsc hH hS hl)) (fun n => by first | exact absurd hc n | exact absurd n hc | exact absurd hc n | exact absurd n hc)
  · rename_i hc; cases h_2
    exact lv_if_gt hx hb dg ht (fun n => by first | exact absurd hc n | exact absurd n hc | exact absurd hc n | exact absurd n hc) (fun _ => (K H locs lsc hH hS hl))
theorem am_s_if_le {k : Int} (C : am_Cx p l s m args meth c G z) (dg : decode (am_by z) pc = .ok (.ifCond .le k, 3)) {w} (h : am_st call z (.ifCond .le k) pc ls st M X = some (.inl w)) (K : am_Sm p l e R s m args below meth c Q G z X0 w) : am_Sm p l e R s m args below meth c Q G z X0 (pc, ls, st, M, X) := by
  obtain ⟨hx, hb, hml, hown, hts, hK, hU, hN, hX, hbb, hlk, hst, hini⟩ := C
  simp only [am_st, am_ex] at h
  intro H locs lsc hH hS hl
  obtain ⟨x, st1, rfl, h_1⟩ := am_popI_i h
  obtain ⟨t, ht, h_2⟩ := am_j_i h_1
  split at h_2
  · rename_i hc; cases h_2
    exact lv_if_le hx hb dg ht (fun n => by first | exact absurd hc n | exact absurd n hc | exact absurd (Int32.not_le.mpr hc) n | exact absurd n (Int32.not_le.mpr hc)) (fun _ => (K H locs lsc hH hS hl))
  · rename_i hc; cases h_2
    exact lv_if_le hx hb dg ht (fun _ => (K H locs lsc hH hS hl)) (fun n => by first | exact absurd hc n | exact absurd n hc | exact absurd (Int32.not_lt.mp hc) n | exact absurd n (Int32.not_lt.mp hc))
theorem am_s_ic_eq {k : Int} (C : am_Cx p l s m args meth c G z) (dg : decode (am_by z) pc = .ok (.if_icmp .eq k, 3)) {w} (h : am_st call z (.if_icmp .eq k) pc ls st M X = some (.inl w)) (K : am_Sm p l e R s m args below meth c Q G z X0 w) : am_Sm p l e R s m args below meth c Q G z X0 (pc, ls, st, M, X) := by
  obtain ⟨hx, hb, hml, hown, hts, hK, hU, hN, hX, hbb, hlk, hst, hini⟩ := C
  simp only [am_st, am_ex] at h
  intro H locs lsc hH hS hl
  obtain ⟨y, st1, rfl, h_1⟩ := am_popI_i h
  obtain ⟨x, st2, rfl, h_2⟩ := am_popI_i h_1
  obtain ⟨t, ht, h_3⟩ := am_j_i h_2
  split at h_3
  · rename_i hc; cases h_3
    exact lv_icmp_eq hx hb dg ht (fun _ => (K H locs lsc hH hS hl)) (fun n => by first | exact absurd hc n | exact absurd n hc | exact absurd hc n | exact absurd n hc)
  · rename_i hc; cases h_3
    exact lv_icmp_eq hx hb dg ht (fun n => by first | exact absurd hc n | exact absurd n hc | exact absurd hc n | exact absurd n hc) (fun _ => (K H locs lsc hH hS hl))
theorem am_s_ic_ne {k : Int} (C : am_Cx p l s m args meth c G z) (dg : decode (am_by z) pc = .ok (.if_icmp .ne k, 3)) {w} (h : am_st call z (.if_icmp .ne k) pc ls st M X = some (.inl w)) (K : am_Sm p l e R s m args below meth c Q G z X0 w) : am_Sm p l e R s m args below meth c Q G z X0 (pc, ls, st, M, X) := by
  obtain ⟨hx, hb, hml, hown, hts, hK, hU, hN, hX, hbb, hlk, hst, hini⟩ := C
  simp only [am_st, am_ex] at h
  intro H locs lsc hH hS hl
  obtain ⟨y, st1, rfl, h_1⟩ := am_popI_i h
  obtain ⟨x, st2, rfl, h_2⟩ := am_popI_i h_1
  obtain ⟨t, ht, h_3⟩ := am_j_i h_2
  split at h_3
  · rename_i hc; cases h_3
    exact lv_icmp_ne hx hb dg ht (fun n => by first | exact absurd hc n | exact absurd n hc | exact absurd hc n | exact absurd n hc) (fun _ => (K H locs lsc hH hS hl))
  · rename_i hc; cases h_3
    exact lv_icmp_ne hx hb dg ht (fun _ => (K H locs lsc hH hS hl)) (fun n => by first | exact absurd hc n | exact absurd n hc | exact absurd hc n | exact absurd n hc)
theorem am_s_ic_lt {k : Int} (C : am_Cx p l s m args meth c G z) (dg : decode (am_by z) pc = .ok (.if_icmp .lt k, 3)) {w} (h : am_st call z (.if_icmp .lt k) pc ls st M X = some (.inl w)) (K : am_Sm p l e R s m args below meth c Q G z X0 w) : am_Sm p l e R s m args below meth c Q G z X0 (pc, ls, st, M, X) := by
  obtain ⟨hx, hb, hml, hown, hts, hK, hU, hN, hX, hbb, hlk, hst, hini⟩ := C
  simp only [am_st, am_ex] at h
  intro H locs lsc hH hS hl
  obtain ⟨y, st1, rfl, h_1⟩ := am_popI_i h
  obtain ⟨x, st2, rfl, h_2⟩ := am_popI_i h_1
  obtain ⟨t, ht, h_3⟩ := am_j_i h_2
  split at h_3
  · rename_i hc; cases h_3
    exact lv_icmp_lt hx hb dg ht (fun _ => (K H locs lsc hH hS hl)) (fun n => by first | exact absurd hc n | exact absurd n hc | exact absurd hc n | exact absurd n hc)
  · rename_i hc; cases h_3
    exact lv_icmp_lt hx hb dg ht (fun n => by first | exact absurd hc n | exact absurd n hc | exact absurd hc n | exact absurd n hc) (fun _ => (K H locs lsc hH hS hl))
theorem am_s_ic_ge {k : Int} (C : am_Cx p l s m args meth c G z) (dg : decode (am_by z) pc = .ok (.if_icmp .ge k, 3)) {w} (h : am_st call z (.if_icmp .ge k) pc ls st M X = some (.inl w)) (K : am_Sm p l e R s m args below meth c Q G z X0 w) : am_Sm p l e R s m args below meth c Q G z X0 (pc, ls, st, M, X) := by
  obtain ⟨hx, hb, hml, hown, hts, hK, hU, hN, hX, hbb, hlk, hst, hini⟩ := C
  simp only [am_st, am_ex] at h
  intro H locs lsc hH hS hl
  obtain ⟨y, st1, rfl, h_1⟩ := am_popI_i h
  obtain ⟨x, st2, rfl, h_2⟩ := am_popI_i h_1
  obtain ⟨t, ht, h_3⟩ := am_j_i h_2
  split at h_3
  · rename_i hc; cases h_3
    exact lv_icmp_ge hx hb dg ht (fun n => by first | exact absurd hc n | exact absurd n hc | exact absurd (Int32.not_le.mpr hc) n | exact absurd n (Int32.not_le.mpr hc)) (fun _ => (K H locs lsc hH hS hl))
  · rename_i hc; cases h_3
    exact lv_icmp_ge hx hb dg ht (fun _ => (K H locs lsc hH hS hl)) (fun n => by first | exact absurd hc n | exact absurd n hc | exact absurd (Int32.not_lt.mp hc) n | exact absurd n (Int32.not_lt.mp hc))
theorem am_s_ic_gt {k : Int} (C : am_Cx p l s m args meth c G z) (dg : decode (am_by z) pc = .ok (.if_icmp .gt k, 3)) {w} (h : am_st call z (.if_icmp .gt k) pc ls st M X = some (.inl w)) (K : am_Sm p l e R s m args below meth c Q G z X0 w) : am_Sm p l e R s m args below meth c Q G z X0 (pc, ls, st, M, X) := by
  obtain ⟨hx, hb, hml, hown, hts, hK, hU, hN, hX, hbb, hlk, hst, hini⟩ := C
  simp only [am_st, am_ex] at h
  intro H locs lsc hH hS hl
  obtain ⟨y, st1, rfl, h_1⟩ := am_popI_i h
  obtain ⟨x, st2, rfl, h_2⟩ := am_popI_i h_1
  obtain ⟨t, ht, h_3⟩ := am_j_i h_2
  split at h_3
  · rename_i hc; cases h_3
    exact lv_icmp_gt hx hb dg ht (fun _ => (K H locs lsc hH hS hl)) (fun n => by first | exact absurd hc n | exact absurd n hc | exact absurd hc n | exact absurd n hc)
  · rename_i hc; cases h_3
    exact lv_icmp_gt hx hb dg ht (fun n => by first | exact absurd hc n | exact absurd n hc | exact absurd hc n | exact absurd n hc) (fun _ => (K H locs lsc hH hS hl))
theorem am_s_ic_le {k : Int} (C : am_Cx p l s m args meth c G z) (dg : decode (am_by z) pc = .ok (.if_icmp .le k, 3)) {w} (h : am_st call z (.if_icmp .le k) pc ls st M X = some (.inl w)) (K : am_Sm p l e R s m args below meth c Q G z X0 w) : am_Sm p l e R s m args below meth c Q G z X0 (pc, ls, st, M, X) := by
  obtain ⟨hx, hb, hml, hown, hts, hK, hU, hN, hX, hbb, hlk, hst, hini⟩ := C
  simp only [am_st, am_ex] at h
  intro H locs lsc hH hS hl
  obtain ⟨y, st1, rfl, h_1⟩ := am_popI_i h
  obtain ⟨x, st2, rfl, h_2⟩ := am_popI_i h_1
  obtain ⟨t, ht, h_3⟩ := am_j_i h_2
  split at h_3
  · rename_i hc; cases h_3
    exact lv_icmp_le hx hb dg ht (fun n => by first | exact absurd hc n | exact absurd n hc | exact absurd (Int32.not_le.mpr hc) n | exact absurd n (Int32.not_le.mpr hc)) (fun _ => (K H locs lsc hH hS hl))
  · rename_i hc; cases h_3
    exact lv_icmp_le hx hb dg ht (fun _ => (K H locs lsc hH hS hl)) (fun n => by first | exact absurd hc n | exact absurd n hc | exact absurd (Int32.not_lt.mp hc) n | exact absurd n (Int32.not_lt.mp hc))
theorem am_s_ts {d lo hi : Int} {os : Array Int} {n : Nat} (C : am_Cx p l s m args meth c G z) (dg : decode (am_by z) pc = .ok (.tableswitch d lo hi os, n)) {w} (h : am_st call z (.tableswitch d lo hi os) pc ls st M X = some (.inl w)) (K : am_Sm p l e R s m args below meth c Q G z X0 w) : am_Sm p l e R s m args below meth c Q G z X0 (pc, ls, st, M, X) := by
  obtain ⟨hx, hb, hml, hown, hts, hK, hU, hN, hX, hbb, hlk, hst, hini⟩ := C
  simp only [am_st, am_ex] at h
  intro H locs lsc hH hS hl
  obtain ⟨x, st1, rfl, h_1⟩ := am_popI_i h
  split at h_1
  · rename_i hc
    obtain ⟨t, ht, h2⟩ := am_j_i h_1
    cases h2
    exact lv_tableOut hx hb dg hc ht (K H locs lsc hH hS hl)
  · rename_i hc
    split at h_1
    · rename_i o ho
      obtain ⟨t, ht, h2⟩ := am_j_i h_1
      cases h2
      exact lv_tableIn hx hb dg (fun q => hc (Or.inl q)) (fun q => hc (Or.inr q)) ho ht (K H locs lsc hH hS hl)
    · cases h_1
theorem am_s_lk {d : Int} {ps : Array (Int × Int)} {n : Nat} (C : am_Cx p l s m args meth c G z) (dg : decode (am_by z) pc = .ok (.lookupswitch d ps, n)) {w} (h : am_st call z (.lookupswitch d ps) pc ls st M X = some (.inl w)) (K : am_Sm p l e R s m args below meth c Q G z X0 w) : am_Sm p l e R s m args below meth c Q G z X0 (pc, ls, st, M, X) := by
  obtain ⟨hx, hb, hml, hown, hts, hK, hU, hN, hX, hbb, hlk, hst, hini⟩ := C
  simp only [am_st, am_ex] at h
  intro H locs lsc hH hS hl
  obtain ⟨x, st1, rfl, h_1⟩ := am_popI_i h
  obtain ⟨hs, h_2⟩ := am_if_i h_1
  obtain ⟨t, ht, h_3⟩ := am_j_i h_2
  cases h_3
  exact lv_lookup hx hb dg hs rfl ht (K H locs lsc hH hS hl)
theorem am_s_getfield {ix : Nat} (C : am_Cx p l s m args meth c G z) (dg : decode (am_by z) pc = .ok (.getfield ix, 3)) {w} (h : am_st call z (.getfield ix) pc ls st M X = some (.inl w)) (K : am_Sm p l e R s m args below meth c Q G z X0 w) : am_Sm p l e R s m args below meth c Q G z X0 (pc, ls, st, M, X) := by
  obtain ⟨hx, hb, hml, hown, hts, hK, hU, hN, hX, hbb, hlk, hst, hini⟩ := C
  simp only [am_st, am_ex] at h
  intro H locs lsc hH hS hl
  split at h
  · cases h
  rename_i ci j hf
  obtain ⟨l0, st1, rfl, h_1⟩ := am_popP_i h
  obtain ⟨hal, hkd, h_2⟩ := am_chk_i h_1
  obtain ⟨hw, hj, hci, hdc⟩ := am_fl_w hf
  have hl0 := am_kd_ne hkd (by decide)
  have hc0 := hH.1 l0 hal hl0
  unfold am_cell at hc0
  simp only [hkd] at hc0
  have hv : W p l e R s m args below meth c H locs (X.2.2.1 - X0.2.2.1) (X.2.2.2.1 - X0.2.2.2.1) Q (F0 m (pc + 3) lsc (am_fv G ci M X.1 l0 j :: st1.map (am_tv G))) := by
    unfold am_fv
    split at h_2
    · rename_i hk; cases h_2; rw [if_pos hk]; exact K H locs lsc hH hS hl
    · rename_i hk; cases h_2; rw [if_neg hk]; exact K H locs lsc hH hS hl
  show W p l e R s m args below meth c H locs _ _ Q (F0 m pc lsc (am_rv G (some l0) :: st1.map (am_tv G)))
  rw [am_rv_ref hl0]
  obtain ⟨cell, q1, q2, q3, q4⟩ := hc0
  obtain ⟨hS2, hfc, kC, hkC, hkind⟩ := hK.1 ci _ (am_cl_at ci hci)
  obtain ⟨cf, kf, fi, f, hi, hsl⟩ := hS2 j hj
  exact W.getf hx hb hown (hts _ hw) (by rw [← hdc]; exact hi) (u_facts hfc hkC (u_lays hts (am_cl_in ci hci) hj) hi).1 q1 (by rw [q3]; exact fun h_2 => by cases h_2) (v := am_fv G ci M X.1 l0 j) (by rw [hsl]; exact q4 j hj) rfl rfl dg hv
end AmSound
