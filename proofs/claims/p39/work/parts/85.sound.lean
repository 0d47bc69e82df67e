/-! SOUNDNESS: what the abstract machine answers, the machine answers -/
section AmSound
variable {p : Program} {l : Launch} {e : Env} {R : Room} {s : State} {m : MethodId} {args : Array Value} {below : List Frame} {meth : Method} {c : Code} {Q : State → Prop} {G : am_Γ} {z : Nat} {X0 : am_X} {call : Nat → List am_V → am_M → am_X → Option am_R} {pc : Nat} {ls : am_S} {st : List am_V} {M : am_M} {X : am_X}
theorem am_s_obj {ix y : Nat} (C : am_Cx p l s m args meth c G z) (hm : am_ml (am_own z) ix = some (5, y)) (dg : decode (am_by z) pc = .ok (.invokespecial ix, 3)) (hR : 27 ≤ R.frames ∧ 751 ≤ R.locals) {w} (h : am_st call z (.invokespecial ix) pc ls st M X = some (.inl w)) (K : am_Sm p l e R s m args below meth c Q G z X0 w) : am_Sm p l e R s m args below meth c Q G z X0 (pc, ls, st, M, X) := by
  obtain ⟨i, hi⟩ := am_ml_at hm
  simp only [am_mlw, Bool.and_eq_true] at hi
  obtain ⟨hx, hb, hml, hown, hts, hK, hU, hN, hX, hbb, hlk, hst, hini⟩ := C
  simp only [am_st, am_ex, hm, am_inv] at h
  intro H locs lsc hH hS hl
  obtain ⟨l0, rest, rfl, h1⟩ := am_popP_i h
  obtain ⟨h4, h2⟩ := am_sm_i h1
  cases h2
  have hc8 := am_cat (G := G) rest h4
  exact W.objInit hx hb hown (hts _ (am_at_in hi.2)) (hts _ (am_ob_w (by simp [am_ob]))) (hts _ (am_ob_w (by simp [am_ob]))) rfl (by rw [hml]; exact hl.1.1) (a := if l0.1 = 0 then G.2.1 else am_adr G l0) rfl dg (by omega) (by show 2 * 0 + _ + 12 ≤ _; omega) (K H locs lsc hH hS hl)
theorem am_s_min {ix y : Nat} (C : am_Cx p l s m args meth c G z) (hm : am_ml (am_own z) ix = some (6, y)) (dg : decode (am_by z) pc = .ok (.invokestatic ix, 3)) (hR : 27 ≤ R.frames ∧ 751 ≤ R.locals) (hrm : X.2.2.1 - X0.2.2.1 ≤ R.cells ∧ X.2.2.2.1 - X0.2.2.2.1 ≤ R.slots) {w} (h : am_st call z (.invokestatic ix) pc ls st M X = some (.inl w)) (K : am_Sm p l e R s m args below meth c Q G z X0 w) : am_Sm p l e R s m args below meth c Q G z X0 (pc, ls, st, M, X) := by
  obtain ⟨i, hi⟩ := am_ml_at hm
  simp only [am_mlw, Bool.and_eq_true] at hi
  obtain ⟨hx, hb, hml, hown, hts, hK, hU, hN, hX, hbb, hlk, hst, hini⟩ := C
  simp only [am_st, am_ex, hm, am_inv] at h
  intro H locs lsc hH hS hl
  obtain ⟨y1, st1, rfl, h1⟩ := am_popI_i h
  obtain ⟨x1, rest, rfl, h2⟩ := am_popI_i h1
  obtain ⟨h4, h3⟩ := am_sm_i h2
  cases h3
  have hc8 := am_cat (G := G) rest h4
  exact va_mmin hx hb (by rw [hml]; exact hl.1.1.symm) hown (hts _ (am_at_in hi.2)) (hts _ (am_ob_w (by simp [am_ob]))) (hts _ (am_ob_w (by simp [am_ob]))) (hts _ (am_ob_w (by simp [am_ob]))) (by omega) (by omega) hrm.1 hrm.2 dg (K H locs lsc hH hS hl)
theorem am_nfw : nativeFrameWords "java/lang/System" "arraycopy" 5 + 11 ≤ 100 := by decide +kernel
/-- arraycopy between two rows of ints, only the second one changes -/
theorem am_Wcopy {H : Heap} {locs : List Loc} {cells slots : Nat} {lsc : Array Slot} {rest : List Value} {own : String} {index a a0 : Nat} {c1 : ClassId} {n0 n1 : Nat} {f g : Nat → Int32} (hx : p.tables.exec = Jvm.exec) (hb : c.code = am_by z) (hml : c.maxLocals = lsc.size) (hown : s.vm.findClass own = some m.cls)
    (hlink : (Cond.methodLink own index arraycopyName).before args s = true) (hnat : (Cond.native arraycopyName).before args s = true) (hstat : (Cond.static arraycopyName).before args s = true) (hini : (Cond.initialized "java/lang/System").before args s = true)
    (hK0 : va_K G.2.2.1 am_cl (am_tys G) s) (ht1 : (am_tys G)[0]? = some (c1, .int)) (hc0 : H[a0]? = some (arrV c1 n0 (fun j => .int (f j)))) (hc1 : H[a]? = some (arrV c1 n1 (fun j => .int (g j))))
    {sp dp n : Int32} (h1 : ¬ sp < 0) (h2 : ¬ dp < 0) (h3 : ¬ n < 0) (h4 : sp.toNatClampNeg + n.toNatClampNeg ≤ n0) (h5 : dp.toNatClampNeg + n.toNatClampNeg ≤ n1)
    (hframes : 1 ≤ R.frames) (hlocals : (rest.map fun v => v.category).sum + 100 ≤ R.locals) (dg : decode (am_by z) pc = .ok (.invokestatic index, 3))
    (kk : ∀ (H1 : Heap) (L : List Loc), H1.size = H.size → (∀ q : Nat, q ≠ a → H1[q]? = H[q]?) → H1[a]? = some (arrV c1 n1 (fun j => .int (va_cpy f g sp.toNatClampNeg dp.toNatClampNeg n.toNatClampNeg j))) → (∀ x ∈ L, x.base = a) → W p l e R s m args below meth c H1 (locs ++ L) cells slots Q (F0 m (pc + 3) lsc rest)) :
    W p l e R s m args below meth c H locs cells slots Q (F0 m pc lsc (.int n :: .int dp :: .ref a :: .int sp :: .ref a0 :: rest)) := by
  have nn : ∀ x : Int32, ¬ x < 0 → x.toInt = (x.toNatClampNeg : Int) := by
    intro x hx0
    have hz0 : (0 : Int) ≤ x.toInt := by
      have := Int32.not_lt.mp hx0
      simpa using Int32.le_iff_toInt_le.mp this
    show x.toInt = ((x.toInt.toNat : Nat) : Int)
    omega
  have hw := am_nfw
  intro T hT Y
  obtain ⟨-, k0, hk0, cm0, hkk0⟩ := (hK0.2 0 _ ht1).1 n0 (fun j => .int (f j))
  obtain ⟨-, k1, hk1, cm1, hkk1⟩ := (hK0.2 0 _ ht1).1 n1 (fun j => .int (g j))
  obtain ⟨vm', Y', step⟩ := Y.arraycopy hx hown hlink hnat hstat hini (src := a0) (dst := a) (cs := arrV c1 n0 (fun j => .int (f j))) (cd := arrV c1 n1 (fun j => .int (g j))) (srcPos := sp) (destPos := dp) (n := n) (by rw [hT]; exact hc0) (by rw [hT]; exact hc1)
    (fun _ h => by cases h) (fun _ h => by cases h) (fun h => by cases h) (fun h => by cases h) hk0 hk1 hkk0 hkk1 (by simp [refKind]) h1 h2 h3
    (by rw [nn sp h1, nn n h3, arrV_size]; omega) (by rw [nn dp h2, nn n h3, arrV_size]; omega)
    (fun vm₁ _ i hi => by
      have e : (arrV c1 n0 (fun j => .int (f j))).slots.getD (sp.toNatClampNeg + i) .null = .int (f (sp.toNatClampNeg + i)) := by
        rw [Array.getD_eq_getD_getElem?, arrV_read _ _ (by omega)]
        rfl
      refine ⟨?_, ?_⟩
      · rw [e]; rfl
      · rw [e]; exact trivial)
    (g := F0 m pc lsc (.int n :: .int dp :: .ref a :: .int sp :: .ref a0 :: rest)) rfl (by rw [hml]) (rest := rest) rfl (by rw [hb]; exact dg) hframes (by show 2 * 0 + _ + _ ≤ _; omega)
  have e1 : copied (arrV c1 n0 (fun j => .int (f j))) (arrV c1 n1 (fun j => .int (g j))) sp dp n = arrV c1 n1 (fun j => .int (va_cpy f g sp.toNatClampNeg dp.toNatClampNeg n.toNatClampNeg j)) := va_copied (fun x => .int x) c1 c1 f g h4
  rw [e1] at Y' step
  have hl : a < H.size := (Array.getElem?_eq_some_iff.mp hc1).1
  have hheap : ∀ x : Cell, ((T.setVm vm').setCell a x).heap = H.setIfInBounds a x := fun x => by rw [← hT]; rfl
  obtain ⟨t, a1, b1⟩ := kk _ _ (by simp) (fun q hq => by simp [Array.getElem?_setIfInBounds, Ne.symm hq]) (by simp [Array.getElem?_setIfInBounds, hl]) (fun x hx0 => by obtain ⟨y, -, hy⟩ := List.mem_map.mp hx0; rw [← hy]) _ (hheap _) Y'
  exact ⟨t, step t a1, b1⟩
theorem am_s_copy {ix y : Nat} (C : am_Cx p l s m args meth c G z) (hm : am_ml (am_own z) ix = some (7, y)) (dg : decode (am_by z) pc = .ok (.invokestatic ix, 3)) (hR : 27 ≤ R.frames ∧ 751 ≤ R.locals) {w} (h : am_st call z (.invokestatic ix) pc ls st M X = some (.inl w)) (K : am_Sm p l e R s m args below meth c Q G z X0 w) : am_Sm p l e R s m args below meth c Q G z X0 (pc, ls, st, M, X) := by
  obtain ⟨i, hi⟩ := am_ml_at hm
  simp only [am_mlw, Bool.and_eq_true] at hi
  obtain ⟨hx, hb, hml, hown, hts, hK, hU, hN, hX, hbb, hlk, hst, hini⟩ := C
  simp only [am_st, am_ex, hm, am_inv] at h
  intro H locs lsc hH hS hl
  dsimp only at hH hl ⊢
  obtain ⟨n, st1, rfl, h1⟩ := am_popI_i h
  obtain ⟨dp, st2, rfl, h2⟩ := am_popI_i h1
  obtain ⟨a, st3, rfl, h3⟩ := am_popP_i h2
  obtain ⟨sp, st4, rfl, h5⟩ := am_popI_i h3
  obtain ⟨a0, rest, rfl, h6⟩ := am_popP_i h5
  obtain ⟨h4, h7⟩ := am_sm_i h6
  obtain ⟨⟨g1, g2, g3, g4, g5, g6, g7, g8, g9, g10⟩, h8⟩ := am_if_i h7
  cases h8
  have hc8 := am_cat (G := G) rest h4
  obtain ⟨k1, k2, ka⟩ : ∃ x y, am_kd a = (1, x, y) := ⟨(am_kd a).2.1, (am_kd a).2.2, by rw [← g4]⟩
  obtain ⟨k3, k4, kb⟩ : ∃ x y, am_kd a0 = (1, x, y) := ⟨(am_kd a0).2.1, (am_kd a0).2.2, by rw [← g5]⟩
  have ha := am_kd_ne ka (by decide)
  have ha0 := am_kd_ne kb (by decide)
  show W p l e R s m args below meth c H locs _ _ Q (F0 m pc lsc (.int n :: .int dp :: am_rv G (some a) :: .int sp :: am_rv G (some a0) :: rest.map (am_tv G)))
  rw [am_rv_ref ha, am_rv_ref ha0]
  rw [ka] at g10
  rw [kb] at g9
  refine am_Wcopy hx hb (by rw [hml]; exact hl.1.1.symm) hown (hts _ (am_at_in hi.2)) (hts _ (am_ob_w (by simp [am_ob]))) (hts _ (am_ob_w (by simp [am_ob]))) (hts _ (am_ob_w (by simp [am_ob]))) hK rfl ((am_cell_1 kb).mp (hH.1 a0 g3 ha0)) ((am_cell_1 ka).mp (hH.1 a g2 ha)) g6 g7 g8 g9 g10 (by omega) (by omega) dg (fun H1 L z1 o1 e1 hL => ?_)
  have hcp : ∀ l', l' ≠ a → am_cp M a0 a sp.toNatClampNeg dp.toNatClampNeg n.toNatClampNeg l' = M l' := fun l' hl' => by funext j; exact if_neg hl'
  refine K H1 (locs ++ L) lsc (am_HR.upd hH g2 ha z1 o1 hcp (fun _ _ => rfl) rfl rfl hH.2.2.2.1 ?_) (hS.am (Nat.le_of_eq z1.symm) (fun q _ hq => o1 q (fun z => hq (by rw [z]; exact am_adr_A hbb.2.2.2 (am_al_ok g2)))) (fun x hx => by rw [hL x hx]; exact am_adr_A hbb.2.2.2 (am_al_ok g2))) hl
  rw [am_cell_1 ka, e1]
  refine am_arr_eq (fun k _ => ?_)
  dsimp only
  rw [show am_cp M a0 a sp.toNatClampNeg dp.toNatClampNeg n.toNatClampNeg a k = va_cpy (M a0) (M a) sp.toNatClampNeg dp.toNatClampNeg n.toNatClampNeg k from if_pos rfl]
set_option maxHeartbeats 4000000 in
/-- one instruction that goes on -/
theorem am_sim {i : Instr} (C : am_Cx p l s m args meth c G z) (hcd : am_cd z pc = some i) (hF : am_isF i = false) {w} (h : am_st call z i pc ls st M X = some (.inl w)) (hle : am_le X0 X) (hrm : w.2.2.2.2.2.2.1 - X0.2.2.1 ≤ R.cells ∧ w.2.2.2.2.2.2.2.1 - X0.2.2.2.1 ≤ R.slots) (K : am_Sm p l e R s m args below meth c Q G z X0 w) : am_Sm p l e R s m args below meth c Q G z X0 (pc, ls, st, M, X) := by
  cases i
  case iload j => exact am_s_iload C (am_dg hcd rfl (by decide)) h K
  case aload j => exact am_s_aload C (am_dg hcd rfl (by decide)) h K
  case fload j => exact am_s_fload C (am_dg hcd rfl (by decide)) h K
  case dload j => exact am_s_dload C (am_dg hcd rfl (by decide)) h K
  case istore j => exact am_s_istore C (am_dg hcd rfl (by decide)) h K
  case astore j => exact am_s_astore C (am_dg hcd rfl (by decide)) h K
  case fstore j => exact am_s_fstore C (am_dg hcd rfl (by decide)) h K
  case dstore j => exact am_s_dstore C (am_dg hcd rfl (by decide)) h K
  case iconst j => exact am_s_iconst C (am_dg hcd rfl (by decide)) h K
  case bipush j => exact am_s_bipush C (am_dg hcd rfl (by decide)) h K
  case sipush j => exact am_s_sipush C (am_dg hcd rfl (by decide)) h K
  case lconst j => exact am_s_lconst C (am_dg hcd rfl (by decide)) h K
  case ldc j => exact am_s_ldc C (am_dg hcd rfl (by decide)) h K
  case fcmp j => exact am_s_fcmp C (am_dg hcd rfl (by decide)) h K
  case dcmp j => exact am_s_dcmp C (am_dg hcd rfl (by decide)) h K
  case goto j => exact am_s_goto C (am_dg hcd rfl (by decide)) h K
  case getfield j => exact am_s_getfield C (am_dg hcd rfl (by decide)) h K
  case putfield j => exact am_s_putfield C (am_dg hcd rfl (by decide)) h K
  case iload_n j => exact am_s_iload_n C (am_dg hcd rfl (by decide)) h K
  case aload_n j => exact am_s_aload_n C (am_dg hcd rfl (by decide)) h K
  case istore_n j => exact am_s_istore_n C (am_dg hcd rfl (by decide)) h K
  case astore_n j => exact am_s_astore_n C (am_dg hcd rfl (by decide)) h K
  case iinc j k => exact am_s_iinc C (am_dg hcd rfl (by decide)) h K
  case iadd => exact am_s_iadd C (am_dg hcd rfl (by decide)) h K
  case isub => exact am_s_isub C (am_dg hcd rfl (by decide)) h K
  case imul => exact am_s_imul C (am_dg hcd rfl (by decide)) h K
  case iand => exact am_s_iand C (am_dg hcd rfl (by decide)) h K
  case ior => exact am_s_ior C (am_dg hcd rfl (by decide)) h K
  case ishl => exact am_s_ishl C (am_dg hcd rfl (by decide)) h K
  case ishr => exact am_s_ishr C (am_dg hcd rfl (by decide)) h K
  case idiv => exact am_s_idiv C (am_dg hcd rfl (by decide)) h K
  case irem => exact am_s_irem C (am_dg hcd rfl (by decide)) h K
  case i2l => exact am_s_i2l C (am_dg hcd rfl (by decide)) h K
  case i2c => exact am_s_i2c C (am_dg hcd rfl (by decide)) h K
  case i2f => exact am_s_i2f C (am_dg hcd rfl (by decide)) h K
  case i2d => exact am_s_i2d C (am_dg hcd rfl (by decide)) h K
  case f2d => exact am_s_f2d C (am_dg hcd rfl (by decide)) h K
  case fdiv => exact am_s_fdiv C (am_dg hcd rfl (by decide)) h K
  case ddiv => exact am_s_ddiv C (am_dg hcd rfl (by decide)) h K
  case lcmp => exact am_s_lcmp C (am_dg hcd rfl (by decide)) h K
  case dup => exact am_s_dup C (am_dg hcd rfl (by decide)) h K
  case pop => exact am_s_pop C (am_dg hcd rfl (by decide)) h K
  case dup2 => exact am_s_dup2 C (am_dg hcd rfl (by decide)) h K
  case dup_x1 => exact am_s_dup_x1 C (am_dg hcd rfl (by decide)) h K
  case dup_x2 => exact am_s_dup_x2 C (am_dg hcd rfl (by decide)) h K
  case iaload => exact am_s_iaload C (am_dg hcd rfl (by decide)) h K
  case caload => exact am_s_caload C (am_dg hcd rfl (by decide)) h K
  case aaload => exact am_s_aaload C (am_dg hcd rfl (by decide)) h K
  case laload => exact am_s_laload C (am_dg hcd rfl (by decide)) h K
  case ldc2_w j => exact am_s_ldc2_w C (am_dg hcd rfl (by decide)) h K
  case lload j => exact am_s_lload C (am_dg hcd rfl (by decide)) h K
  case lload_n j => exact am_s_lload_n C (am_dg hcd rfl (by decide)) h K
  case lstore j => exact am_s_lstore C (am_dg hcd rfl (by decide)) h K
  case lstore_n j => exact am_s_lstore_n C (am_dg hcd rfl (by decide)) h K
  case ladd => exact am_s_ladd C (am_dg hcd rfl (by decide)) h K
  case lmul => exact am_s_lmul C (am_dg hcd rfl (by decide)) h K
  case ixor => exact am_s_ixor C (am_dg hcd rfl (by decide)) h K
  case iastore => exact am_s_iastore C (am_dg hcd rfl (by decide)) h K
  case castore => exact am_s_castore C (am_dg hcd rfl (by decide)) h K
  case lastore => exact am_s_lastore C (am_dg hcd rfl (by decide)) h K
  case aastore => exact am_s_aastore C (am_dg hcd rfl (by decide)) h K
  case arraylength => exact am_s_alen C (am_dg hcd rfl (by decide)) h K
  case ifCond a b => cases a <;> first | exact am_s_if_eq C (am_dg hcd rfl (by decide)) h K | exact am_s_if_ne C (am_dg hcd rfl (by decide)) h K | exact am_s_if_lt C (am_dg hcd rfl (by decide)) h K | exact am_s_if_ge C (am_dg hcd rfl (by decide)) h K | exact am_s_if_gt C (am_dg hcd rfl (by decide)) h K | exact am_s_if_le C (am_dg hcd rfl (by decide)) h K
  case if_icmp a b => cases a <;> first | exact am_s_ic_eq C (am_dg hcd rfl (by decide)) h K | exact am_s_ic_ne C (am_dg hcd rfl (by decide)) h K | exact am_s_ic_lt C (am_dg hcd rfl (by decide)) h K | exact am_s_ic_ge C (am_dg hcd rfl (by decide)) h K | exact am_s_ic_gt C (am_dg hcd rfl (by decide)) h K | exact am_s_ic_le C (am_dg hcd rfl (by decide)) h K
  case tableswitch a b d f =>
    obtain ⟨n, dg, -⟩ := am_dg0 hcd
    exact am_s_ts C dg h K
  case lookupswitch a b =>
    obtain ⟨n, dg, -⟩ := am_dg0 hcd
    exact am_s_lk C dg h K
  case newarray t => cases t <;> first | exact nomatch (show (none : Option am_N) = some (.inl w) from h) | exact am_s_newint C (am_dg hcd rfl (by decide)) h hle hrm K | exact am_s_newchar C (am_dg hcd rfl (by decide)) h hle hrm K | exact absurd hF (by decide)
  case anewarray j => exact am_s_anew C (am_dg hcd rfl (by decide)) h hle hrm K
  all_goals first | exact nomatch (show (none : Option am_N) = some (.inl w) from h) | exact absurd hF (by decide) | exact absurd hF (fun q => by cases q)
theorem am_hd_ne {pc E : Nat} {q : Nat × Nat} (h : am_hd z pc E = some q) : am_hs z ≠ [] := by
  intro e
  unfold am_hd at h
  rw [e] at h
  cases h
/-- behind a call -/
theorem am_called {r r0 : am_R} {rest : List am_V} {a : Array Value} (hz : z < 232) (C : am_Cx p l s m args meth c G z) (hnc : am_Nc G s) (htab : am_hs z ≠ [] → c.exceptionTable.toList = tableOf (am_hh z)) (hle1 : am_le X0 X) (hle2 : am_le X r.2.2)
    (hr : ∀ (H : Heap) (locs : List Loc) (lsc : Array Slot), am_HR G M X H → va_S (am_A G) s.heap H locs → lsc.size = am_mL z → vx_Run p l e R s m args below meth c H locs (X.2.2.1 - X0.2.2.1) (X.2.2.2.1 - X0.2.2.2.1) (am_dc X r) (am_ds X r) (F0 m pc lsc (st.map (am_tv G))) (rest.map (am_tv G)) (am_Qr G r a) (am_XCr G r) (am_A G))
    (hthr : ∀ (E : Nat) (H : Heap) (locs : List Loc) (lsc : Array Slot) (rest : List Value) (q : Addr) (ce : Cell), r0.1 = .inr E → am_tr z = true → am_HR G r0.2.1 r0.2.2 H → va_S (am_A G) s.heap H locs → H[q]? = some ce → ce.vm = .none → s.vm.findClass (am_en E) = some ce.cls → vx_W p l e R s m args below meth c H locs (r0.2.2.2.2.1 - X0.2.2.1) (r0.2.2.2.2.2.1 - X0.2.2.2.1) Q (F0 m pc lsc rest) q)
    {q : am_N} (h : am_bk z pc ls rest (some r) (fun a b c d e => some (.inl (a, b, c, d, e))) (fun r => some (.inr r)) = some q) (hq : ∀ w, q = .inl w → am_Sm p l e R s m args below meth c Q G z X0 w) (hq2 : ∀ r', q = .inr r' → r' = r0) : am_Sm p l e R s m args below meth c Q G z X0 (pc, ls, st, M, X) := by
  obtain ⟨g1, g2⟩ := hle1
  obtain ⟨g3, g4⟩ := hle2
  intro H locs lsc hH hS hl
  have hr' := hr H locs lsc hH hS hl.1.1
  rcases am_bk_i h with ⟨v, M', X', e1, h1⟩ | ⟨E, M', X', e1, hd, htr, h1⟩ | ⟨E, M', X', t, j, e1, hd, h1⟩
  · have e1 := Option.some.inj e1
    subst e1
    have K := hq _ (Option.some.inj h1).symm
    refine am_after_v hr' hS rfl (fun H1 locs1 hH1 hS1 => ?_)
    have K1 := K H1 locs1 lsc hH1 hS1 hl
    dsimp only [am_dc, am_ds] at K1 g3 g4 ⊢
    rw [show (v.map (am_tv G)).toList ++ rest.map (am_tv G) = (v.toList ++ rest).map (am_tv G) by cases v <;> rfl]
    exact W.cs (by omega) (by omega) K1
  · have e1 := Option.some.inj e1
    subst e1
    have e2 := hq2 _ (Option.some.inj h1).symm
    subst e2
    refine am_after_x hr' hS rfl (fun H1 locs1 q1 ce hH1 hS1 c1 c2 c3 => ?_)
    dsimp only [am_dc, am_ds] at g3 g4 ⊢
    refine vx_widen ?_ ?_ (hthr E H1 locs1 lsc _ q1 ce rfl htr hH1 hS1 c1 c2 c3) <;> dsimp only <;> omega
  · have e1 := Option.some.inj e1
    subst e1
    have K := hq _ (Option.some.inj h1).symm
    refine am_after_x hr' hS rfl (fun H1 locs1 q1 ce hH1 hS1 c1 c2 c3 => ?_)
    refine am_catch hz C hnc (htab (am_hd_ne hd)) hd hl c1 c2 c3 (fun lsc' hl' => ?_)
    have K1 := K H1 locs1 lsc' hH1 hS1 hl'
    dsimp only [am_dc, am_ds] at K1 g3 g4 ⊢
    exact W.cs (by omega) (by omega) K1
theorem am_bk_nx {r : am_R} {rest : List am_V} {q : am_N} (h : am_bk z pc ls rest (some r) (fun a b c d e => some (.inl (a, b, c, d, e))) (fun r => some (.inr r)) = some q) : am_nx q = r.2.2 := by
  rcases am_bk_i h with ⟨v, M', X', e1, h1⟩ | ⟨E, M', X', e1, hd, htr, h1⟩ | ⟨E, M', X', t, j, e1, hd, h1⟩ <;> (cases Option.some.inj e1; cases h1; rfl)
theorem am_bk_so {cr : Option am_R} {rest : List am_V} {q : am_N} (h : am_bk z pc ls rest cr (fun a b c d e => some (.inl (a, b, c, d, e))) (fun r => some (.inr r)) = some q) : ∃ r, cr = some r := by
  cases cr with
  | none => cases h
  | some r => exact ⟨r, rfl⟩
theorem am_ml_ks {o ix k y : Nat} (hm : am_ml o ix = some (k, y)) : (k = 0 → am_ks y = 1) ∧ (k = 2 ∨ k = 3 → am_ks y = 2) := by
  obtain ⟨i, hi⟩ := am_ml_at hm
  refine ⟨fun e => ?_, fun e => ?_⟩
  · subst e
    simp only [am_mlw, Bool.and_eq_true, decide_eq_true_eq, beq_iff_eq] at hi
    exact hi.2.1.1.2
  · rcases e with rfl | rfl <;> simp only [am_mlw, Bool.and_eq_true, decide_eq_true_eq, beq_iff_eq] at hi
    · exact hi.2.1.1.2
    · exact hi.2.1.1.2
theorem am_one_rev {vs : List am_V} (h : ∀ v ∈ vs, am_one v) : ∀ v ∈ vs.reverse, am_one v := fun v hv => h v (List.mem_reverse.mp hv)
theorem am_one_cons {l0 : am_L} {vs : List am_V} (h : ∀ v ∈ vs, am_one v) : ∀ v ∈ (.inr (some l0) :: vs.reverse : List am_V), am_one v := fun v hv => (List.mem_cons.mp hv).elim (fun e => by rw [e]; exact Or.inr ⟨l0, rfl⟩) (am_one_rev h v)
theorem am_na_le {y : Nat} (hy : am_zk y) : am_na y + (if am_ks y = 0 then 0 else 1) ≤ am_mL y := (am_z_facts hy).2.2.2.2.2.2.2.2.2
theorem am_s_iv {d ix : Nat} {r0 : am_R} (hz : z < 232) (C : am_Cx p l s m args meth c G z) (hnc : am_Nc G s) (htab : am_hs z ≠ [] → c.exceptionTable.toList = tableOf (am_hh z)) (hcs : am_Cs l d) (hfr : d + 27 ≤ R.frames) (hlo : 31 * d + 751 ≤ R.locals) (hle1 : am_le X0 X)
    (hthr : ∀ (E : Nat) (H : Heap) (locs : List Loc) (lsc : Array Slot) (rest : List Value) (q : Addr) (ce : Cell), r0.1 = .inr E → am_tr z = true → am_HR G r0.2.1 r0.2.2 H → va_S (am_A G) s.heap H locs → H[q]? = some ce → ce.vm = .none → s.vm.findClass (am_en E) = some ce.cls → vx_W p l e R s m args below meth c H locs (r0.2.2.2.2.1 - X0.2.2.1) (r0.2.2.2.2.2.1 - X0.2.2.2.1) Q (F0 m pc lsc rest) q)
    (hcd : am_cd z pc = some (.invokevirtual ix)) {q : am_N} (h : am_st (am_ev d) z (.invokevirtual ix) pc ls st M X = some q) (hrm : (am_nx q).2.2.1 - X0.2.2.1 ≤ R.cells ∧ (am_nx q).2.2.2.1 - X0.2.2.2.1 ≤ R.slots) (hq : ∀ w, q = .inl w → am_Sm p l e R s m args below meth c Q G z X0 w) (hq2 : ∀ r', q = .inr r' → r' = r0) : am_Sm p l e R s m args below meth c Q G z X0 (pc, ls, st, M, X) := by
  dsimp only [am_st, am_ex] at h
  split at h
  · rename_i y hm
    simp only [am_inv] at h
    obtain ⟨vs, st1, hlen, rfl, hone, h1⟩ := am_popN_i h
    obtain ⟨l0, rest, rfl, h2⟩ := am_popP_i h1
    obtain ⟨h4, h3⟩ := am_sm_i h2
    obtain ⟨hal, hkd, h5⟩ := am_chk_i h3
    obtain ⟨r, hr⟩ := am_bk_so h5
    rw [hr] at h5
    have hle2 := am_ev_le _ _ _ _ _ _ hr
    rw [am_bk_nx h5] at hrm
    obtain ⟨g1, g2⟩ := hle1
    obtain ⟨g3, g4⟩ := hle2
    rw [List.append_nil] at hr
    have hy := am_ml_lt hm (by omega)
    have hna := am_na_le hy
    rw [if_neg (by rw [(am_ml_ks hm).1 rfl]; decide)] at hna
    have hlen2 : (.inr (some l0) :: vs.reverse : List am_V).length ≤ am_mL y := by rw [List.length_cons, List.length_reverse, hlen]; omega
    refine am_called hz C hnc htab ⟨g1, g2⟩ ⟨g3, g4⟩ (fun H locs lsc hH hS hsz => am_run_v C hnc hm (am_dg hcd rfl (by decide)) hlen h4 hal hkd (hcs y hy _ _ _ _ (am_one_cons hone) hlen2 hr) hfr hlo hH hS hsz (by dsimp only [am_dc, am_ds] at *; omega)) hthr h5 hq hq2
  · rename_i y hm
    exact am_s_sln C hnc hm (am_dg hcd rfl (by decide)) (by omega) hle1 h hrm hq
  · rename_i y hm
    exact am_s_sch C hnc hm (am_dg hcd rfl (by decide)) (by omega) hle1 h hrm hq
  · cases h
theorem am_s_is {d ix k y : Nat} {r0 : am_R} (hz : z < 232) (C : am_Cx p l s m args meth c G z) (hnc : am_Nc G s) (htab : am_hs z ≠ [] → c.exceptionTable.toList = tableOf (am_hh z)) (hcs : am_Cs l d) (hfr : d + 27 ≤ R.frames) (hlo : 31 * d + 751 ≤ R.locals) (hle1 : am_le X0 X)
    (hthr : ∀ (E : Nat) (H : Heap) (locs : List Loc) (lsc : Array Slot) (rest : List Value) (q : Addr) (ce : Cell), r0.1 = .inr E → am_tr z = true → am_HR G r0.2.1 r0.2.2 H → va_S (am_A G) s.heap H locs → H[q]? = some ce → ce.vm = .none → s.vm.findClass (am_en E) = some ce.cls → vx_W p l e R s m args below meth c H locs (r0.2.2.2.2.1 - X0.2.2.1) (r0.2.2.2.2.2.1 - X0.2.2.2.1) Q (F0 m pc lsc rest) q)
    (hcd : am_cd z pc = some (.invokestatic ix)) (hm : am_ml (am_own z) ix = some (k, y)) (hk : k = 1 ∨ k = 4) {q : am_N} (h : am_inv (am_ev d) z 1 y pc ls st M X (fun a b c d e => some (.inl (a, b, c, d, e))) (fun r => some (.inr r)) = some q) (hrm : (am_nx q).2.2.1 - X0.2.2.1 ≤ R.cells ∧ (am_nx q).2.2.2.1 - X0.2.2.2.1 ≤ R.slots) (hq : ∀ w, q = .inl w → am_Sm p l e R s m args below meth c Q G z X0 w) (hq2 : ∀ r', q = .inr r' → r' = r0) : am_Sm p l e R s m args below meth c Q G z X0 (pc, ls, st, M, X) := by
  simp only [am_inv] at h
  obtain ⟨vs, rest, hlen, rfl, hone, h1⟩ := am_popN_i h
  obtain ⟨h4, h5⟩ := am_sm_i h1
  obtain ⟨r, hr⟩ := am_bk_so h5
  rw [hr] at h5
  have hle2 := am_ev_le _ _ _ _ _ _ hr
  rw [am_bk_nx h5] at hrm
  obtain ⟨g1, g2⟩ := hle1
  obtain ⟨g3, g4⟩ := hle2
  rw [List.append_nil] at hr
  have hy := am_ml_lt hm (by omega)
  have hna := am_na_le hy
  have hlen2 : vs.reverse.length ≤ am_mL y := by rw [List.length_reverse, hlen]; omega
  refine am_called hz C hnc htab ⟨g1, g2⟩ ⟨g3, g4⟩ (fun H locs lsc hH hS hsz => am_run_s C hnc hm hk (am_dg hcd rfl (by decide)) hlen h4 (hcs y hy _ _ _ _ (am_one_rev hone) hlen2 hr) hfr hlo hH hS hsz (by dsimp only [am_dc, am_ds] at *; omega)) hthr h5 hq hq2
theorem am_s_ii {d ix k y : Nat} {r0 : am_R} (hz : z < 232) (C : am_Cx p l s m args meth c G z) (hnc : am_Nc G s) (htab : am_hs z ≠ [] → c.exceptionTable.toList = tableOf (am_hh z)) (hcs : am_Cs l d) (hfr : d + 27 ≤ R.frames) (hlo : 31 * d + 751 ≤ R.locals) (hle1 : am_le X0 X)
    (hthr : ∀ (E : Nat) (H : Heap) (locs : List Loc) (lsc : Array Slot) (rest : List Value) (q : Addr) (ce : Cell), r0.1 = .inr E → am_tr z = true → am_HR G r0.2.1 r0.2.2 H → va_S (am_A G) s.heap H locs → H[q]? = some ce → ce.vm = .none → s.vm.findClass (am_en E) = some ce.cls → vx_W p l e R s m args below meth c H locs (r0.2.2.2.2.1 - X0.2.2.1) (r0.2.2.2.2.2.1 - X0.2.2.2.1) Q (F0 m pc lsc rest) q)
    (hcd : am_cd z pc = some (.invokespecial ix)) (hm : am_ml (am_own z) ix = some (k, y)) (hk : k = 2 ∨ k = 3) {q : am_N} (h : am_inv (am_ev d) z 0 y pc ls st M X (fun a b c d e => some (.inl (a, b, c, d, e))) (fun r => some (.inr r)) = some q) (hrm : (am_nx q).2.2.1 - X0.2.2.1 ≤ R.cells ∧ (am_nx q).2.2.2.1 - X0.2.2.2.1 ≤ R.slots) (hq : ∀ w, q = .inl w → am_Sm p l e R s m args below meth c Q G z X0 w) (hq2 : ∀ r', q = .inr r' → r' = r0) : am_Sm p l e R s m args below meth c Q G z X0 (pc, ls, st, M, X) := by
  simp only [am_inv] at h
  obtain ⟨vs, st1, hlen, rfl, hone, h1⟩ := am_popN_i h
  obtain ⟨l0, rest, rfl, h2⟩ := am_popP_i h1
  obtain ⟨h4, h3⟩ := am_sm_i h2
  obtain ⟨hal, hkd, h5⟩ := am_chk_i h3
  obtain ⟨r, hr⟩ := am_bk_so h5
  rw [hr] at h5
  have hle2 := am_ev_le _ _ _ _ _ _ hr
  rw [am_bk_nx h5] at hrm
  obtain ⟨g1, g2⟩ := hle1
  obtain ⟨g3, g4⟩ := hle2
  rw [List.append_nil] at hr
  have hy := am_ml_lt hm (by omega)
  have hna := am_na_le hy
  rw [if_neg (by rw [(am_ml_ks hm).2 hk]; decide)] at hna
  have hlen2 : (.inr (some l0) :: vs.reverse : List am_V).length ≤ am_mL y := by rw [List.length_cons, List.length_reverse, hlen]; omega
  refine am_called hz C hnc htab ⟨g1, g2⟩ ⟨g3, g4⟩ (fun H locs lsc hH hS hsz => am_run_i C hnc hm hk (am_dg hcd rfl (by decide)) hlen h4 hkd (hcs y hy _ _ _ _ (am_one_cons hone) hlen2 hr) hfr hlo hH hS hsz (by dsimp only [am_dc, am_ds] at *; omega)) hthr h5 hq hq2
end AmSound
