/-! READS AND WRITES OF THE HEAP ARE KEPT -/
theorem am_ref_ty : ∀ ci, ci < 10 → ∀ j, j < am_cN ci → am_fk ci j = 3 → (am_cY ci j).isReference = true := by decide +kernel
theorem am_def_ty : ∀ ci, ci < 10 → ∀ j, j < am_cN ci → defaultValue (am_cY ci j) = if am_fk ci j = 3 then .null else .int 0 := by decide +kernel
theorem am_ref_fits {ty : FieldType} {a : Nat} (h : ty.isReference = true) : narrow ty (.ref a) = .ref a ∧ fits ty (.ref a) = true := by
  cases ty <;> first | exact ⟨rfl, rfl⟩ | (exact absurd h (by decide))
theorem am_set_ne {M : am_M} {l l' : am_L} {j : Nat} {x : Int32} (h : l' ≠ l) : am_set M l j x l' = M l' := by
  funext k; unfold am_set; rw [if_neg (fun q => h q.1)]
theorem am_set_self {M : am_M} {l : am_L} {j : Nat} {x : Int32} : am_set M l j x l = upd (M l) j x := by
  funext k; unfold am_set upd; simp
theorem am_setT_ne {M : am_T} {l l' : am_L} {j : Nat} {x : Option am_L} (h : l' ≠ l) : am_setT M l j x l' = M l' := by
  funext k; unfold am_setT; rw [if_neg (fun q => h q.1)]
theorem am_kd_arr {l : am_L} {k a b : Nat} (h : am_kd l = (k, a, b)) : a ≤ 4000 ∧ b ≤ 4000 := by
  obtain ⟨t, n, q⟩ := l
  simp only [am_kd] at h
  split at h <;> simp only [Prod.mk.injEq] at h <;> omega
theorem am_kd_3 {G : am_Γ} {l : am_L} {ci n : Nat} (h : am_kd l = (3, ci, n)) : (∃ k : Nat, (am_tys G)[k]? = some (G.2.2.2.1 (10 + ci), FieldType.object (am_cR ci))) ∧ ci ∈ [0, 2, 4, 5, 7] := by
  obtain ⟨t, m, q⟩ := l
  simp only [am_kd] at h
  split at h <;> simp only [Prod.mk.injEq] at h <;> first
    | (exact absurd h.1 (by decide))
    | (obtain ⟨-, rfl, -⟩ := h; first | exact ⟨⟨4, rfl⟩, by decide⟩ | exact ⟨⟨5, rfl⟩, by decide⟩ | exact ⟨⟨6, rfl⟩, by decide⟩ | exact ⟨⟨7, rfl⟩, by decide⟩ | exact ⟨⟨8, rfl⟩, by decide⟩)
theorem am_ao_w {ci : Nat} (h : ci ∈ [0, 2, 4, 5, 7]) : Cond.arrayOver (.object (am_cR ci)) ∈ am_W := by
  obtain ⟨i, hi⟩ := am_al2_in am_ao_ok _ h
  exact am_at_in hi
theorem am_ac_w {t : FieldType} (h : t ∈ [FieldType.int, .char, .long, .byte]) : Cond.arrayClass t ∈ am_W := by
  obtain ⟨i, hi⟩ := am_al2_in am_ac_ok _ h
  exact am_at_in hi
theorem am_ins_w {ci : Nat} (h : ci < 10) : Cond.instantiable (am_cR ci) (am_cN ci) ∈ am_W := by
  obtain ⟨i, hi⟩ := am_al2_in am_ins_ok _ (List.mem_range.mpr h)
  exact am_at_in hi
theorem am_init_w {ci : Nat} (h : ci < 11) : Cond.initialized (am_cR ci) ∈ am_W := by
  obtain ⟨i, hi⟩ := am_al2_in am_init_ok _ (List.mem_range.mpr h)
  exact am_at_in hi
theorem am_ob_w {w : Cond} (h : w ∈ am_ob) : w ∈ am_W := by
  obtain ⟨i, hi⟩ := am_al2_in am_ob_ok _ h
  exact am_at_in hi
def am_le (X Y : am_X) : Prop := X.2.2.1 ≤ Y.2.2.1 ∧ X.2.2.2.1 ≤ Y.2.2.2.1
theorem va_S.am {A : Nat → Prop} {H0 H H1 : Heap} {locs L : List Loc} (h : va_S A H0 H locs) (hz : H.size ≤ H1.size) (ho : ∀ q : Nat, q < H.size → ¬ A q → H1[q]? = H[q]?) (hL : ∀ x ∈ L, A x.base) : va_S A H0 H1 (locs ++ L) :=
  ⟨Nat.le_trans h.1 hz, fun q h1 h2 => (ho q (Nat.lt_of_lt_of_le h1 h.1) h2).trans (h.2.1 q h1 h2), fun x hx => (List.mem_append.mp hx).elim (h.2.2 x) (hL x)⟩
theorem am_rk.set {T : am_T} {l v : am_L} {j : Nat} (h : am_rk T) (hv : v.1 ≠ 1 ∧ v.1 ≠ 50) : am_rk (am_setT T l j (some v)) := by
  intro l' j' u hu
  unfold am_setT at hu
  split at hu
  · cases hu; exact hv
  · exact h l' j' u hu
section AmHeap
variable {p : Program} {l : Launch} {e : Env} {R : Room} {s : State} {m : MethodId} {args : Array Value} {below : List Frame} {meth : Method} {c : Code} {Q : State → Prop} {G : am_Γ} {z : Nat} {X0 : am_X} {call : Nat → List am_V → am_M → am_X → Option am_R} {pc : Nat} {ls : am_S} {st : List am_V} {M : am_M} {X : am_X}
theorem am_adr_A {l0 : am_L} (hb : am_b0 G ≤ G.1) (h : am_ok l0 = true) : am_A G (am_adr G l0) := by
  show am_b0 G ≤ am_adr G l0
  rw [am_adr_ok h]
  exact Nat.le_trans hb (Nat.le_add_right _ _)
/-- putfield of a value at a known object -/
theorem am_Wput {H : Heap} {locs : List Loc} {cells slots : Nat} {lsc : Array Slot} {rest : List Value} (C : am_Cx p l s m args meth c G z) {ix ci j a : Nat} {V : Nat → Value} {vv : Value} (dg : decode (am_by z) pc = .ok (.putfield ix, 3)) (hf : am_fl (am_own z) ix = some (ci, j)) (hff : ¬ (am_ff ci j = true ∧ ¬ (am_ini z = true ∧ am_own z = ci)))
    (hcell : t_OB a (G.2.2.1.1 ci) (am_cN ci) (G.2.2.1.2 ci) H V) (hn : narrow (am_cY ci j) vv = vv) (hfit : fits (am_cY ci j) vv = true)
    (kk : ∀ H' : Heap, H'.size = H.size → (∀ q : Nat, q ≠ a → H'[q]? = H[q]?) → t_OB a (G.2.2.1.1 ci) (am_cN ci) (G.2.2.1.2 ci) H' (updV V j vv) → W p l e R s m args below meth c H' (locs ++ [⟨a, G.2.2.1.2 ci j⟩]) cells slots Q (F0 m (pc + 3) lsc rest)) :
    W p l e R s m args below meth c H locs cells slots Q (F0 m pc lsc (vv :: .ref a :: rest)) := by
  obtain ⟨hx, hb, hml, hown, hts, hK, hU, hN, hX, hbb, hlk, hst, hini⟩ := C
  obtain ⟨hw, hj, hci, hdc⟩ := am_fl_w hf
  have hcl := am_cl_at ci hci
  have hin := am_cl_in ci hci
  have hap := va_apart (own := am_cR (am_own z)) hts hin (am_cY ci) (am_cY_ok ci hci) (am_nm_ok ci hci) hK hcl
  obtain ⟨cell, q1, q2, q3, q4⟩ := hcell
  obtain ⟨hS, hfc, kC, hkC, hkind⟩ := hK.1 ci _ hcl
  obtain ⟨cf, kf, fi, f, hi, hsl⟩ := hS j hj
  have hlay := hts _ (hin _ (u_in_lay hj))
  have hd := am_cY_ok ci hci j hj
  have hst := (u_facts hfc hkC (u_lays hts hin hj) hi).1
  unfold u_lay at hlay
  cases hfin : (am_cT ci j).2.2.2 with
  | false =>
    rw [if_neg (by rw [hfin]; decide)] at hlay
    have h6 := u_store hfc hkC hkind hlay hi hd hn hfit
    refine W.putK hx hb (f := f) ⟨hown, hts _ hw, ⟨_, _, _, by rw [← hdc]; exact hi⟩, hst⟩ (by rw [q2]; exact h6) q1 q3 (by rw [hsl]; exact k2_hasslot (q4 j hj)) rfl rfl dg fun H' e1 e2 e3 => ?_
    rw [hsl] at e1 ⊢
    exact kk H' e2 e3 ⟨_, e1, q2, q3, t_set q4 hap hj vv⟩
  | true =>
    rw [if_pos hfin] at hlay
    have hcf : m.cls = cf := by
      obtain ⟨_, _, c', _, _, _, -, -, hf', -, -, -, hown2, -⟩ := Cond.laysFinal_spec hlay
      have e1 : c' = cf := by have := hi.symm.trans hf'; simp at this; exact this.1.symm
      have e0 : am_own z = ci := Classical.byContradiction fun q => hff ⟨hfin, fun w => q w.2⟩
      rw [hdc, ← e0] at hown2
      rw [← e1]; exact Option.some.inj (hown.symm.trans hown2)
    have hin2 : meth.name = "<init>" := hini (Classical.byContradiction fun q => hff ⟨hfin, fun w => q w.1⟩)
    have h6 := u_fits hfc hkC hkind (Or.inr hlay) hi hd hn hfit
    refine W.putFinK hx hb hown (hts _ hw) (by rw [← hdc]; exact hi) hst hcf hin2 (by rw [q2]; exact h6) q1 q3 (by rw [hsl]; exact k2_hasslot (q4 j hj)) rfl rfl dg fun H' e1 e2 e3 => ?_
    rw [hsl] at e1 ⊢
    exact kk H' e2 e3 ⟨_, e1, q2, q3, t_set q4 hap hj vv⟩
theorem am_s_putfield {ix : Nat} (C : am_Cx p l s m args meth c G z) (dg : decode (am_by z) pc = .ok (.putfield ix, 3)) {w} (h : am_st call z (.putfield ix) pc ls st M X = some (.inl w)) (K : am_Sm p l e R s m args below meth c Q G z X0 w) : am_Sm p l e R s m args below meth c Q G z X0 (pc, ls, st, M, X) := by
  simp only [am_st, am_ex] at h
  intro H locs lsc hH hS hl
  dsimp only at hH hl ⊢
  split at h
  · cases h
  rename_i ci j hf
  obtain ⟨hff, h1⟩ := am_ifn_i h
  obtain ⟨hw, hj, hci, hdc⟩ := am_fl_w hf
  split at h1
  · rename_i hk
    obtain ⟨v, st1, rfl, h2⟩ := am_popP_i h1
    obtain ⟨l0, st2, rfl, h3⟩ := am_popP_i h2
    obtain ⟨hal, hkd, h4⟩ := am_chk_i h3
    obtain ⟨hv, h5⟩ := am_if_i h4
    cases h5
    have hl0 := am_kd_ne hkd (by decide)
    have hc0 := hH.1 l0 hal hl0
    unfold am_cell at hc0
    simp only [hkd] at hc0
    show W p l e R s m args below meth c H locs _ _ Q (F0 m pc lsc (am_rv G (some v) :: am_rv G (some l0) :: st2.map (am_tv G)))
    rw [am_rv_ref hl0]
    obtain ⟨f1, f2⟩ := am_ref_fits (a := if v.1 = 0 then G.2.1 else am_adr G v) (am_ref_ty ci hci j hj hk)
    refine am_Wput C dg hf hff hc0 f1 f2 (fun H' hz ho hc1 => ?_)
    refine K H' _ lsc (am_HR.upd hH hal hl0 hz ho (fun _ _ => rfl) (fun l' h => am_setT_ne h) rfl rfl (am_rk.set hH.2.2.2.1 (am_ok_k (am_al_ok hv))) ?_) (hS.am (Nat.le_of_eq hz.symm) (fun q _ hq => ho q (fun z => hq (by rw [z]; exact am_adr_A C.b0 (am_al_ok hal)))) (fun x hx => by rw [List.mem_singleton.mp hx]; exact am_adr_A C.b0 (am_al_ok hal))) hl
    unfold am_cell
    simp only [hkd]
    refine hc1.to (fun k _ => ?_)
    unfold updV am_fv am_setT
    by_cases hkj : k = j
    · subst hkj
      simp [hk, am_rv]
    · simp [hkj]
  · rename_i hk
    obtain ⟨x, st1, rfl, h2⟩ := am_popI_i h1
    obtain ⟨l0, st2, rfl, h3⟩ := am_popP_i h2
    obtain ⟨hal, hkd, h4⟩ := am_chk_i h3
    obtain ⟨hv, h5⟩ := am_if_i h4
    cases h5
    have hl0 := am_kd_ne hkd (by decide)
    have hc0 := hH.1 l0 hal hl0
    unfold am_cell at hc0
    simp only [hkd] at hc0
    show W p l e R s m args below meth c H locs _ _ Q (F0 m pc lsc (.int x :: am_rv G (some l0) :: st2.map (am_tv G)))
    rw [am_rv_ref hl0]
    obtain ⟨f1, f2⟩ := am_pc_nar hci hj hv
    refine am_Wput C dg hf hff hc0 f1 f2 (fun H' hz ho hc1 => ?_)
    refine K H' _ lsc (am_HR.upd hH hal hl0 hz ho (fun l' h => am_set_ne h) (fun l' h => rfl) rfl rfl hH.2.2.2.1 ?_) (hS.am (Nat.le_of_eq hz.symm) (fun q _ hq => ho q (fun z => hq (by rw [z]; exact am_adr_A C.b0 (am_al_ok hal)))) (fun x hx => by rw [List.mem_singleton.mp hx]; exact am_adr_A C.b0 (am_al_ok hal))) hl
    unfold am_cell
    simp only [hkd]
    refine hc1.to (fun k _ => ?_)
    unfold updV am_fv
    rw [am_set_self]
    unfold upd
    by_cases hkj : k = j
    · subst hkj
      simp [hk]
    · simp [hkj]
theorem am_arr_eq {cA : ClassId} {n : Nat} {f g : Nat → Value} (h : ∀ k, k < n → f k = g k) : some (arrV cA n f) = some (arrV cA n g) := by
  have e : Array.ofFn (n := n) (fun j => f j.val) = Array.ofFn (n := n) fun j => g j.val := congrArg (Array.ofFn (n := n)) (funext fun j => h j.val j.isLt)
  unfold arrV
  rw [e]
theorem am_in_sz {cA : ClassId} {n : Nat} {f : Nat → Value} {i : Int32} (h : vp_in i n) : ¬ (i < 0 ∨ (arrV cA n f).slots.size ≤ i.toNatClampNeg) := by rw [arrV_size]; exact h
theorem am_in_lt {n : Nat} {i : Int32} (h : vp_in i n) : i.toNatClampNeg < n := Nat.not_le.mp fun q => h (Or.inr q)
/-- an array's cell -/
theorem am_cell_1 {H : Heap} {l0 : am_L} {n b : Nat} (hkd : am_kd l0 = (1, n, b)) : am_cell G M X l0 H ↔ H[am_adr G l0]? = some (arrV (G.2.2.2.1 0) n (fun j => .int (M l0 j))) := by unfold am_cell; simp only [hkd]
theorem am_cell_2 {H : Heap} {l0 : am_L} {n b : Nat} (hkd : am_kd l0 = (2, n, b)) : am_cell G M X l0 H ↔ H[am_adr G l0]? = some (arrV (G.2.2.2.1 1) n (fun j => .int (M l0 j))) := by unfold am_cell; simp only [hkd]
theorem am_cell_3 {H : Heap} {l0 : am_L} {n b : Nat} (hkd : am_kd l0 = (3, n, b)) : am_cell G M X l0 H ↔ H[am_adr G l0]? = some (arrV (G.2.2.2.1 (10 + n)) b (fun j => am_rv G (X.1 l0 j))) := by unfold am_cell; simp only [hkd]
theorem am_s_iaload (C : am_Cx p l s m args meth c G z) (dg : decode (am_by z) pc = .ok (.iaload, 1)) {w} (h : am_st call z .iaload pc ls st M X = some (.inl w)) (K : am_Sm p l e R s m args below meth c Q G z X0 w) : am_Sm p l e R s m args below meth c Q G z X0 (pc, ls, st, M, X) := by
  obtain ⟨hx, hb, hml, hown, hts, hK, hU, hN, hX, hbb, hlk, hst, hini⟩ := C
  simp only [am_st, am_ex] at h
  intro H locs lsc hH hS hl
  dsimp only at hH hl ⊢
  obtain ⟨i, st1, rfl, h1⟩ := am_popI_i h
  obtain ⟨l0, st2, rfl, h2⟩ := am_popP_i h1
  split at h2
  · obtain ⟨⟨rfl, hi⟩, h3⟩ := am_if_i h2
    cases h3
    have hL : (M (0, 0, 1) 0).toNatClampNeg = G.2.2.2.2.1 := by
      rw [hH.2.1.1]
      exact nI_clamp (by omega)
    rw [hL] at hi
    have hi : vp_in i G.2.2.2.2.1 := hi
    show W p l e R s m args below meth c H locs _ _ Q (F0 m pc lsc (.int i :: .ref G.2.1 :: st2.map (am_tv G)))
    refine va_sld (A := am_A G) hx hb hX (by omega) (by show ¬ am_b0 G ≤ G.2.1; omega) hS hi dg ?_
    rw [← hH.2.1.2 _ (am_in_lt hi)]
    exact K H locs lsc hH hS hl
  · obtain ⟨hal, hkd, hi, h3⟩ := am_arr_i h2
    cases h3
    have hl0 := am_kd_ne hkd (by decide)
    show W p l e R s m args below meth c H locs _ _ Q (F0 m pc lsc (.int i :: am_rv G (some l0) :: st2.map (am_tv G)))
    rw [am_rv_ref hl0]
    exact W.iald (v := .int (M l0 i.toNatClampNeg)) hx hb ((am_cell_1 hkd).mp (hH.1 l0 hal hl0)) ((hK.2 0 _ rfl).1 _ _) (fun q => by cases q) (am_in_sz hi) (by rw [arrV_read _ _ (am_in_lt hi)]) rfl rfl dg (K H locs lsc hH hS hl)
theorem am_s_caload (C : am_Cx p l s m args meth c G z) (dg : decode (am_by z) pc = .ok (.caload, 1)) {w} (h : am_st call z .caload pc ls st M X = some (.inl w)) (K : am_Sm p l e R s m args below meth c Q G z X0 w) : am_Sm p l e R s m args below meth c Q G z X0 (pc, ls, st, M, X) := by
  obtain ⟨hx, hb, hml, hown, hts, hK, hU, hN, hX, hbb, hlk, hst, hini⟩ := C
  simp only [am_st, am_ex] at h
  intro H locs lsc hH hS hl
  dsimp only at hH hl ⊢
  obtain ⟨i, st1, rfl, h1⟩ := am_popI_i h
  obtain ⟨l0, st2, rfl, h2⟩ := am_popP_i h1
  obtain ⟨hal, hkd, hi, h3⟩ := am_arr_i h2
  cases h3
  have hl0 := am_kd_ne hkd (by decide)
  show W p l e R s m args below meth c H locs _ _ Q (F0 m pc lsc (.int i :: am_rv G (some l0) :: st2.map (am_tv G)))
  rw [am_rv_ref hl0]
  exact W.cald (v := .int (M l0 i.toNatClampNeg)) hx hb ((am_cell_2 hkd).mp (hH.1 l0 hal hl0)) ((hK.2 1 _ rfl).1 _ _) (fun q => by cases q) (am_in_sz hi) (by rw [arrV_read _ _ (am_in_lt hi)]) rfl rfl dg (K H locs lsc hH hS hl)
theorem am_s_aaload (C : am_Cx p l s m args meth c G z) (dg : decode (am_by z) pc = .ok (.aaload, 1)) {w} (h : am_st call z .aaload pc ls st M X = some (.inl w)) (K : am_Sm p l e R s m args below meth c Q G z X0 w) : am_Sm p l e R s m args below meth c Q G z X0 (pc, ls, st, M, X) := by
  obtain ⟨hx, hb, hml, hown, hts, hK, hU, hN, hX, hbb, hlk, hst, hini⟩ := C
  simp only [am_st, am_ex] at h
  intro H locs lsc hH hS hl
  dsimp only at hH hl ⊢
  obtain ⟨i, st1, rfl, h1⟩ := am_popI_i h
  obtain ⟨l0, st2, rfl, h2⟩ := am_popP_i h1
  obtain ⟨hal, hkd, hi, h3⟩ := am_arr_i h2
  cases h3
  have hl0 := am_kd_ne hkd (by decide)
  obtain ⟨⟨k, hk⟩, -⟩ := am_kd_3 (G := G) hkd
  show W p l e R s m args below meth c H locs _ _ Q (F0 m pc lsc (.int i :: am_rv G (some l0) :: st2.map (am_tv G)))
  rw [am_rv_ref hl0]
  exact W.aald (v := am_rv G (X.1 l0 i.toNatClampNeg)) (ty := .object _) hx hb ((am_cell_3 hkd).mp (hH.1 l0 hal hl0)) ((hK.2 k _ hk).1 _ _) rfl (fun q => by cases q) (am_in_sz hi) (by rw [arrV_read _ _ (am_in_lt hi)]) rfl rfl dg (K H locs lsc hH hS hl)
theorem am_s_laload (C : am_Cx p l s m args meth c G z) (dg : decode (am_by z) pc = .ok (.laload, 1)) {w} (h : am_st call z .laload pc ls st M X = some (.inl w)) (K : am_Sm p l e R s m args below meth c Q G z X0 w) : am_Sm p l e R s m args below meth c Q G z X0 (pc, ls, st, M, X) := by
  obtain ⟨hx, hb, hml, hown, hts, hK, hU, hN, hX, hbb, hlk, hst, hini⟩ := C
  simp only [am_st, am_ex] at h
  intro H locs lsc hH hS hl
  dsimp only at hH hl ⊢
  obtain ⟨i, st1, rfl, h1⟩ := am_popI_i h
  obtain ⟨l0, st2, rfl, h2⟩ := am_popP_i h1
  obtain ⟨⟨rfl, hi⟩, h3⟩ := am_if_i h2
  rcases am_o2_i h3 with ⟨f, hf, h4⟩ | ⟨-, h4⟩
  · cases h4
    have hi : vp_in i 13 := hi
    show W p l e R s m args below meth c H locs _ _ Q (F0 m pc lsc (.int i :: .ref (am_wa G) :: st2.map (am_tv G)))
    exact W.lald (v := .long (f i.toNatClampNeg)) hx hb (hH.2.2.2.2.1 f hf).2 ((hK.2 2 _ rfl).1 _ _) (fun q => by cases q) (am_in_sz hi) (by rw [arrV_read _ _ (am_in_lt hi)]) rfl rfl dg (K H locs lsc hH hS hl)
  · cases h4
/-- after a store into an array: the world, and what was written -/
theorem am_stored {H H' : Heap} {locs : List Loc} {lsc : Array Slot} {l0 : am_L} {k : Nat} {M' : am_M} {X' : am_X} {pc' : Nat} {st' : List am_V} (hH : am_HR G M X H) (hS : va_S (am_A G) s.heap H locs) (hl : am_lv G (am_mL z) ls lsc) (hal : am_al X.2.1 l0 = true) (hl0 : l0.1 ≠ 0) (hz : H'.size = H.size) (ho : ∀ q : Nat, q ≠ am_adr G l0 → H'[q]? = H[q]?)
    (hM : ∀ l', l' ≠ l0 → M' l' = M l') (hT : ∀ l', l' ≠ l0 → X'.1 l' = X.1 l') (hph : X'.2.1 = X.2.1) (hc : X'.2.2.1 = X.2.2.1) (hs : X'.2.2.2.1 = X.2.2.2.1) (h45 : X'.2.2.2.2 = X.2.2.2.2) (hk : am_rk X'.1) (hb0 : am_b0 G ≤ G.1) (hcl : am_cell G M' X' l0 H')
    (K : am_Sm p l e R s m args below meth c Q G z X0 (pc', ls, st', M', X')) : W p l e R s m args below meth c H' (locs ++ [⟨am_adr G l0, k⟩]) (X.2.2.1 - X0.2.2.1) (X.2.2.2.1 - X0.2.2.2.1) Q (F0 m pc' lsc (st'.map (am_tv G))) := by
  have h := K H' (locs ++ [⟨am_adr G l0, k⟩]) lsc (am_HR.upd hH hal hl0 hz ho hM hT hph h45 hk hcl) (hS.am (Nat.le_of_eq hz.symm) (fun q _ hq => ho q (fun z => hq (by rw [z]; exact am_adr_A hb0 (am_al_ok hal)))) (fun x hx => by rw [List.mem_singleton.mp hx]; exact am_adr_A hb0 (am_al_ok hal))) hl
  dsimp only at h
  rw [hc, hs] at h
  exact h
theorem am_s_iastore (C : am_Cx p l s m args meth c G z) (dg : decode (am_by z) pc = .ok (.iastore, 1)) {w} (h : am_st call z .iastore pc ls st M X = some (.inl w)) (K : am_Sm p l e R s m args below meth c Q G z X0 w) : am_Sm p l e R s m args below meth c Q G z X0 (pc, ls, st, M, X) := by
  obtain ⟨hx, hb, hml, hown, hts, hK, hU, hN, hX, hbb, hlk, hst, hini⟩ := C
  simp only [am_st, am_ex] at h
  intro H locs lsc hH hS hl
  dsimp only at hH hl ⊢
  obtain ⟨x, st1, rfl, h1⟩ := am_popI_i h
  obtain ⟨i, st2, rfl, h2⟩ := am_popI_i h1
  obtain ⟨l0, st3, rfl, h3⟩ := am_popP_i h2
  obtain ⟨hal, hkd, hi, h4⟩ := am_arr_i h3
  cases h4
  have hl0 := am_kd_ne hkd (by decide)
  show W p l e R s m args below meth c H locs _ _ Q (F0 m pc lsc (.int x :: .int i :: am_rv G (some l0) :: st3.map (am_tv G)))
  rw [am_rv_ref hl0]
  refine W.iast hx hb ((am_cell_1 hkd).mp (hH.1 l0 hal hl0)) ((hK.2 0 _ rfl).1 _ _) (fun q => by cases q) (am_in_sz hi) rfl rfl dg (fun H' e1 hz ho => ?_)
  refine am_stored hH hS hl hal hl0 hz ho (fun l' h => am_set_ne h) (fun _ _ => rfl) rfl rfl rfl rfl hH.2.2.2.1 hbb.2.2.2 ?_ K
  rw [am_cell_1 hkd, e1, arrV_store]
  refine am_arr_eq (fun k _ => ?_)
  rw [am_set_self]
  unfold updV upd
  split <;> rfl
theorem am_s_castore (C : am_Cx p l s m args meth c G z) (dg : decode (am_by z) pc = .ok (.castore, 1)) {w} (h : am_st call z .castore pc ls st M X = some (.inl w)) (K : am_Sm p l e R s m args below meth c Q G z X0 w) : am_Sm p l e R s m args below meth c Q G z X0 (pc, ls, st, M, X) := by
  obtain ⟨hx, hb, hml, hown, hts, hK, hU, hN, hX, hbb, hlk, hst, hini⟩ := C
  simp only [am_st, am_ex] at h
  intro H locs lsc hH hS hl
  dsimp only at hH hl ⊢
  obtain ⟨x, st1, rfl, h1⟩ := am_popI_i h
  obtain ⟨i, st2, rfl, h2⟩ := am_popI_i h1
  obtain ⟨l0, st3, rfl, h3⟩ := am_popP_i h2
  obtain ⟨hal, hkd, hi, h4⟩ := am_arr_i h3
  cases h4
  have hl0 := am_kd_ne hkd (by decide)
  show W p l e R s m args below meth c H locs _ _ Q (F0 m pc lsc (.int x :: .int i :: am_rv G (some l0) :: st3.map (am_tv G)))
  rw [am_rv_ref hl0]
  refine W.cast hx hb ((am_cell_2 hkd).mp (hH.1 l0 hal hl0)) ((hK.2 1 _ rfl).1 _ _) (fun q => by cases q) (am_in_sz hi) rfl rfl dg (fun H' e1 hz ho => ?_)
  refine am_stored hH hS hl hal hl0 hz ho (fun l' h => am_set_ne h) (fun _ _ => rfl) rfl rfl rfl rfl hH.2.2.2.1 hbb.2.2.2 ?_ K
  rw [am_cell_2 hkd, e1, arrV_store]
  refine am_arr_eq (fun k _ => ?_)
  rw [am_set_self]
  unfold updV upd
  split
  · simp [vp_nar]
    try rfl
  · rfl
theorem am_s_lastore (C : am_Cx p l s m args meth c G z) (dg : decode (am_by z) pc = .ok (.lastore, 1)) {w} (h : am_st call z .lastore pc ls st M X = some (.inl w)) (K : am_Sm p l e R s m args below meth c Q G z X0 w) : am_Sm p l e R s m args below meth c Q G z X0 (pc, ls, st, M, X) := by
  obtain ⟨hx, hb, hml, hown, hts, hK, hU, hN, hX, hbb, hlk, hst, hini⟩ := C
  simp only [am_st, am_ex] at h
  intro H locs lsc hH hS hl
  dsimp only at hH hl ⊢
  obtain ⟨x, st1, rfl, h1⟩ := am_popJ_i h
  obtain ⟨i, st2, rfl, h2⟩ := am_popI_i h1
  obtain ⟨l0, st3, rfl, h3⟩ := am_popP_i h2
  obtain ⟨⟨rfl, hi, hs0⟩, h4⟩ := am_if_i h3
  rcases am_o2_i h4 with ⟨f, hf, h5⟩ | ⟨-, h5⟩
  · cases h5
    have hi : vp_in i 13 := hi
    obtain ⟨w1, w2⟩ := hH.2.2.2.2.1 f hf
    show W p l e R s m args below meth c H locs _ _ Q (F0 m pc lsc (.long x :: .int i :: .ref (am_wa G) :: st3.map (am_tv G)))
    refine W.last hx hb w2 ((hK.2 2 _ rfl).1 _ _) (fun q => by cases q) (am_in_sz hi) rfl rfl dg (fun H' e1 hz ho => ?_)
    obtain ⟨a1, a2, a4, a5⟩ := hH
    refine K H' (locs ++ [_]) lsc ⟨fun l' hl' h0' => ?_, a2, ?_, a5.1, fun g hg => ⟨w1, ?_⟩, fun t ht => by cases ht⟩ (hS.am (Nat.le_of_eq hz.symm) (fun q _ hq => ho q (fun z => hq (by rw [z]; show am_b0 G ≤ _; omega))) (fun y hy => by rw [List.mem_singleton.mp hy]; show am_b0 G ≤ am_wa G; omega)) hl
    · have hok := am_al_ok hl'
      have := am_ad_lt hok h0'
      exact (a1 l' hl' h0').kept (ho _ (by rw [am_adr_ok hok]; show G.1 + am_ad l' ≠ am_wa G; omega)) rfl rfl
    · dsimp only
      cases hx1 : X.2.1 with
      | none =>
        rw [hx1] at a4
        dsimp only at a4 ⊢
        omega
      | some c =>
        rw [hx1] at a4
        dsimp only at a4 ⊢
        exact ⟨by omega, a4.2⟩
    · have hg := Option.some.inj hg
      subst hg
      rw [e1, arrV_store]
      refine am_arr_eq (fun k hk => ?_)
      unfold updV
      show _ = Value.long (if k = i.toNatClampNeg then x else f k)
      by_cases hki : k = i.toNatClampNeg
      · simp only [if_pos hki, upd]
        try rfl
      · simp only [if_neg hki, upd]
        try rfl
  · cases h5
theorem am_s_aastore (C : am_Cx p l s m args meth c G z) (dg : decode (am_by z) pc = .ok (.aastore, 1)) {w} (h : am_st call z .aastore pc ls st M X = some (.inl w)) (K : am_Sm p l e R s m args below meth c Q G z X0 w) : am_Sm p l e R s m args below meth c Q G z X0 (pc, ls, st, M, X) := by
  obtain ⟨hx, hb, hml, hown, hts, hK, hU, hN, hX, hbb, hlk, hst, hini⟩ := C
  simp only [am_st, am_ex] at h
  intro H locs lsc hH hS hl
  dsimp only at hH hl ⊢
  obtain ⟨v, st1, rfl, h1⟩ := am_popP_i h
  obtain ⟨i, st2, rfl, h2⟩ := am_popI_i h1
  obtain ⟨l0, st3, rfl, h3⟩ := am_popP_i h2
  obtain ⟨hal, hkd, hi, h4⟩ := am_arr_i h3
  obtain ⟨halv, hkv, h5⟩ := am_chk_i h4
  cases h5
  have hl0 := am_kd_ne hkd (by decide)
  have hv0 := am_kd_ne hkv (by decide)
  have hci := am_kd_ci hkv
  obtain ⟨⟨k, hk⟩, -⟩ := am_kd_3 (G := G) hkd
  show W p l e R s m args below meth c H locs _ _ Q (F0 m pc lsc (am_rv G (some v) :: .int i :: am_rv G (some l0) :: st3.map (am_tv G)))
  rw [am_rv_ref hl0, am_rv_ref hv0]
  have hcv := hH.1 v halv hv0
  unfold am_cell at hcv
  simp only [hkv] at hcv
  obtain ⟨cellV, g1, g2, g3, -⟩ := hcv
  have hcls := (hK.1 _ _ (am_cl_at _ hci)).2
  obtain ⟨kA, comp, k1, k2, k3, -⟩ := (hK.2 k _ hk).2
  have hcomp : comp = G.2.2.1.1 (am_kd l0).2.1 := Option.some.inj (k3.symm.trans hcls.1)
  subst hcomp
  obtain ⟨kC, hkC, -⟩ := hcls.2
  refine W.aast hx hb ((am_cell_3 hkd).mp (hH.1 l0 hal hl0)) (fun q h => by cases h) (fun h => by cases h) k1 k2 rfl hkC ⟨fun q => hi (Or.inl q), by rw [arrV_size]; exact am_in_lt hi⟩ g1 (fun q h => by rw [g3] at h; cases h) (by rw [g2]; exact hkC) (by rw [g2]; exact va_assign hcls) rfl rfl dg (fun H' e1 hz ho => ?_)
  refine am_stored (X' := (am_setT X.1 l0 i.toNatClampNeg (some v), X.2)) hH hS hl hal hl0 hz ho (fun _ _ => rfl) (fun l' h => am_setT_ne h) rfl rfl rfl rfl (am_rk.set hH.2.2.2.1 (am_ok_k (am_al_ok halv))) hbb.2.2.2 ?_ K
  rw [am_cell_3 hkd, e1, arrV_store]
  refine am_arr_eq (fun q _ => ?_)
  unfold updV am_setT
  by_cases hq : q = i.toNatClampNeg
  · subst hq
    simp [am_rv_ref hv0]
  · simp [hq]
theorem am_s_alen (C : am_Cx p l s m args meth c G z) (dg : decode (am_by z) pc = .ok (.arraylength, 1)) {w} (h : am_st call z .arraylength pc ls st M X = some (.inl w)) (K : am_Sm p l e R s m args below meth c Q G z X0 w) : am_Sm p l e R s m args below meth c Q G z X0 (pc, ls, st, M, X) := by
  obtain ⟨hx, hb, hml, hown, hts, hK, hU, hN, hX, hbb, hlk, hst, hini⟩ := C
  simp only [am_st, am_ex] at h
  intro H locs lsc hH hS hl
  dsimp only at hH hl ⊢
  obtain ⟨l0, st1, rfl, h1⟩ := am_popP_i h
  obtain ⟨rfl, h2⟩ := am_if_i h1
  cases h2
  show W p l e R s m args below meth c H locs _ _ Q (F0 m pc lsc (.ref G.2.1 :: st1.map (am_tv G)))
  refine va_slen (A := am_A G) hx hb hX (by omega) (by show ¬ am_b0 G ≤ G.2.1; omega) hS dg ?_
  have h := K H locs lsc hH hS hl
  dsimp only at h
  rw [hH.2.1.1] at h
  exact h
/-- a new cell of ours -/
theorem am_made {H H' : Heap} {locs : List Loc} {lsc : Array Slot} {l0 : am_L} {c0 n pc' : Nat} {st' : List am_V} (hH : am_HR G M X H) (hS : va_S (am_A G) s.heap H locs) (hl : am_lv G (am_mL z) ls lsc) (hp : X.2.1 = some c0) (hok : am_ok l0 = true) (hl0 : l0.1 ≠ 0) (hc : am_ad l0 = c0) (hz : H'.size = H.size + 1) (ho : ∀ q : Nat, q < H.size → H'[q]? = H[q]?) (hle : am_le X0 X)
    (hcell : am_cell G M (X.1, am_nph c0, X.2.2.1 + 1, X.2.2.2.1 + n, X.2.2.2.2) l0 H') (K : am_Sm p l e R s m args below meth c Q G z X0 (pc', ls, .inr (some l0) :: st', M, (X.1, am_nph c0, X.2.2.1 + 1, X.2.2.2.1 + n, X.2.2.2.2))) :
    W p l e R s m args below meth c H' locs (X.2.2.1 - X0.2.2.1 + 1) (X.2.2.2.1 - X0.2.2.2.1 + n) Q (F0 m pc' lsc (.ref H.size :: st'.map (am_tv G))) := by
  have hsz : H.size = am_adr G l0 := by
    have h4 := hH.2.2.1
    rw [hp] at h4
    rw [am_adr_ok hok, h4.1, ← hc]
  have h := K H' locs lsc (am_HR.new hH hp hok hl0 hc hz ho rfl rfl rfl hcell) (by have := hS.am (L := []) (H1 := H') (by omega) (fun q hq _ => ho q hq) (fun x hx => by cases hx); rwa [List.append_nil] at this) hl
  have h2 : W p l e R s m args below meth c H' locs (X.2.2.1 + 1 - X0.2.2.1) (X.2.2.2.1 + n - X0.2.2.2.1) Q (F0 m pc' lsc (am_rv G (some l0) :: st'.map (am_tv G))) := h
  rw [am_rv_ref hl0, ← hsz] at h2
  obtain ⟨g1, g2⟩ := hle
  exact W.cs (by omega) (by omega) h2
theorem am_s_new {ix ci : Nat} (C : am_Cx p l s m args meth c G z) (hn0 : ¬ (z = 227 ∧ X.2.1 = none ∧ st = [])) (hnw : am_nw (am_own z) ix = some (.inl ci)) (dg : decode (am_by z) pc = .ok (.new ix, 3)) {w} (h : am_st call z (.new ix) pc ls st M X = some (.inl w)) (hle : am_le X0 X) (hrm : w.2.2.2.2.2.2.1 - X0.2.2.1 ≤ R.cells ∧ w.2.2.2.2.2.2.2.1 - X0.2.2.2.1 ≤ R.slots) (K : am_Sm p l e R s m args below meth c Q G z X0 w) : am_Sm p l e R s m args below meth c Q G z X0 (pc, ls, st, M, X) := by
  obtain ⟨hx, hb, hml, hown, hts, hK, hU, hN, hX, hbb, hlk, hst, hini⟩ := C
  simp only [am_st, am_ex, hnw] at h
  intro H locs lsc hH hS hl
  dsimp only at hH hl ⊢
  rw [if_neg hn0] at h
  obtain ⟨c0, l0, hp, hok, had, hkd, hl0, h1⟩ := am_nu_i h
  cases h1
  obtain ⟨i, hi⟩ := am_al2_in am_nw_ok _ (am_look_in hnw)
  simp only [am_nww, Bool.and_eq_true, decide_eq_true_eq] at hi
  obtain ⟨-, hi, hci⟩ := hi
  obtain ⟨g1, g2⟩ := hle
  dsimp only at hrm
  have hKn := hK.1 ci _ (am_cl_at ci hci)
  have h4 := hH.2.2.1
  rw [hp] at h4
  dsimp only at h4
  refine W.newcK hx hb hown (hts _ (am_at_in hi)) (hts _ (am_ins_w hci)) (hts _ (am_init_w (by omega))) rfl dg (by omega) (by omega) hKn.2.1 rfl fun H' kC hkC e1 z1 o1 => ?_
  refine am_made hH hS hl hp hok hl0 had z1 o1 ⟨g1, g2⟩ ?_ K
  unfold am_cell
  simp only [hkd]
  have hb0 := u_born (am_cY ci) hts (am_cl_in ci hci) hKn hkC e1 (am_cY_ok ci hci)
  have hsz : H.size = am_adr G l0 := by rw [am_adr_ok hok, h4.1, ← had]
  rw [hsz] at hb0
  refine hb0.to (fun k hk => ?_)
  rw [am_def_ty ci hci k hk]
  obtain ⟨n1, n2⟩ := h4.2 l0 hok hl0 (by omega)
  unfold am_fv
  rw [n1, n2]
  rfl
theorem am_s_newint (C : am_Cx p l s m args meth c G z) (dg : decode (am_by z) pc = .ok (.newarray .int, 2)) {w} (h : am_st call z (.newarray .int) pc ls st M X = some (.inl w)) (hle : am_le X0 X) (hrm : w.2.2.2.2.2.2.1 - X0.2.2.1 ≤ R.cells ∧ w.2.2.2.2.2.2.2.1 - X0.2.2.2.1 ≤ R.slots) (K : am_Sm p l e R s m args below meth c Q G z X0 w) : am_Sm p l e R s m args below meth c Q G z X0 (pc, ls, st, M, X) := by
  obtain ⟨hx, hb, hml, hown, hts, hK, hU, hN, hX, hbb, hlk, hst, hini⟩ := C
  simp only [am_st, am_ex] at h
  intro H locs lsc hH hS hl
  dsimp only at hH hl ⊢
  obtain ⟨x, st1, rfl, h1⟩ := am_popI_i h
  obtain ⟨hn, h2⟩ := am_ifn_i h1
  obtain ⟨c0, l0, hp, hok, had, hkd, hl0, h3⟩ := am_nu_i h2
  cases h3
  obtain ⟨g1, g2⟩ := hle
  dsimp only at hrm
  have h4 := hH.2.2.1
  rw [hp] at h4
  dsimp only at h4
  have hsz : H.size = am_adr G l0 := by rw [am_adr_ok hok, h4.1, ← had]
  have hb4 := am_kd_arr hkd
  refine va_newaK hx hb (hts _ (am_ac_w (by simp [newarray.typeOf]))) rfl dg rfl hn rfl (by simp only [newarray.typeOf, componentBytes]; omega) (by omega) (by omega) rfl fun H' cA e1 z1 o1 _ hNm => ?_
  have hcA : cA = G.2.2.2.1 0 := Option.some.inj (hNm.symm.trans (hK.2 0 _ rfl).2)
  subst hcA
  refine am_made hH hS hl hp hok hl0 had z1 o1 ⟨g1, g2⟩ ?_ K
  rw [am_cell_1 hkd, ← hsz, e1]
  obtain ⟨n1, -⟩ := h4.2 l0 hok hl0 (by omega)
  refine am_arr_eq (fun j _ => ?_)
  rw [n1]; rfl
theorem am_s_newchar (C : am_Cx p l s m args meth c G z) (dg : decode (am_by z) pc = .ok (.newarray .char, 2)) {w} (h : am_st call z (.newarray .char) pc ls st M X = some (.inl w)) (hle : am_le X0 X) (hrm : w.2.2.2.2.2.2.1 - X0.2.2.1 ≤ R.cells ∧ w.2.2.2.2.2.2.2.1 - X0.2.2.2.1 ≤ R.slots) (K : am_Sm p l e R s m args below meth c Q G z X0 w) : am_Sm p l e R s m args below meth c Q G z X0 (pc, ls, st, M, X) := by
  obtain ⟨hx, hb, hml, hown, hts, hK, hU, hN, hX, hbb, hlk, hst, hini⟩ := C
  simp only [am_st, am_ex] at h
  intro H locs lsc hH hS hl
  dsimp only at hH hl ⊢
  obtain ⟨x, st1, rfl, h1⟩ := am_popI_i h
  obtain ⟨hn, h2⟩ := am_ifn_i h1
  obtain ⟨c0, l0, hp, hok, had, hkd, hl0, h3⟩ := am_nu_i h2
  cases h3
  obtain ⟨g1, g2⟩ := hle
  dsimp only at hrm
  have h4 := hH.2.2.1
  rw [hp] at h4
  dsimp only at h4
  have hsz : H.size = am_adr G l0 := by rw [am_adr_ok hok, h4.1, ← had]
  have hb4 := am_kd_arr hkd
  refine va_newaK hx hb (hts _ (am_ac_w (by simp [newarray.typeOf]))) rfl dg rfl hn rfl (by simp only [newarray.typeOf, componentBytes]; omega) (by omega) (by omega) rfl fun H' cA e1 z1 o1 _ hNm => ?_
  have hcA : cA = G.2.2.2.1 1 := Option.some.inj (hNm.symm.trans (hK.2 1 _ rfl).2)
  subst hcA
  refine am_made hH hS hl hp hok hl0 had z1 o1 ⟨g1, g2⟩ ?_ K
  rw [am_cell_2 hkd, ← hsz, e1]
  obtain ⟨n1, -⟩ := h4.2 l0 hok hl0 (by omega)
  refine am_arr_eq (fun j _ => ?_)
  rw [n1]; rfl
theorem am_s_anew {ix : Nat} (C : am_Cx p l s m args meth c G z) (dg : decode (am_by z) pc = .ok (.anewarray ix, 3)) {w} (h : am_st call z (.anewarray ix) pc ls st M X = some (.inl w)) (hle : am_le X0 X) (hrm : w.2.2.2.2.2.2.1 - X0.2.2.1 ≤ R.cells ∧ w.2.2.2.2.2.2.2.1 - X0.2.2.2.1 ≤ R.slots) (K : am_Sm p l e R s m args below meth c Q G z X0 w) : am_Sm p l e R s m args below meth c Q G z X0 (pc, ls, st, M, X) := by
  obtain ⟨hx, hb, hml, hown, hts, hK, hU, hN, hX, hbb, hlk, hst, hini⟩ := C
  simp only [am_st, am_ex] at h
  intro H locs lsc hH hS hl
  dsimp only at hH hl ⊢
  split at h
  · rename_i ci haw
    obtain ⟨x, st1, rfl, h1⟩ := am_popI_i h
    obtain ⟨hn, h2⟩ := am_ifn_i h1
    obtain ⟨c0, l0, hp, hok, had, hkd, hl0, h3⟩ := am_nu_i h2
    cases h3
    obtain ⟨i, hi⟩ := am_al2_in am_aw_ok _ (am_look_in haw)
    simp only [Bool.and_eq_true, decide_eq_true_eq] at hi
    obtain ⟨hi, hci⟩ := hi
    obtain ⟨g1, g2⟩ := hle
    dsimp only at hrm
    have h4 := hH.2.2.1
    rw [hp] at h4
    dsimp only at h4
    have hsz : H.size = am_adr G l0 := by rw [am_adr_ok hok, h4.1, ← had]
    have hb4 := am_kd_arr hkd
    obtain ⟨⟨k, hk⟩, hci5⟩ := am_kd_3 (G := G) hkd
    refine W.anew hx hb hown (hts _ (am_at_in hi)) (hts _ (am_ao_w hci5)) rfl dg rfl hn (by omega) (by omega) (by omega) fun cA kA comp f1 f2 f3 f4 => ?_
    obtain ⟨kA', comp', k1, k2, k3, k4⟩ := (hK.2 k _ hk).2
    have hcA : cA = G.2.2.2.1 (10 + ci) := Option.some.inj (f1.symm.trans k4)
    subst hcA
    refine am_made hH hS hl hp hok hl0 had (by simp) (fun q hq => by rw [Array.getElem?_push, if_neg (Nat.ne_of_lt hq)]) ⟨g1, g2⟩ ?_ K
    rw [am_cell_3 hkd, ← hsz, Array.getElem?_push_size]
    obtain ⟨-, n1⟩ := h4.2 l0 hok hl0 (by omega)
    have e : (fun j => am_rv G (X.1 l0 j)) = fun _ => Value.null := by funext j; rw [n1]; rfl
    rw [e, ← arrV_new]
  · cases h
end AmHeap
