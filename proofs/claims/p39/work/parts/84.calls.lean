/-! CALLS ARE KEPT -/
section AmCalls
variable {p : Program} {l : Launch} {e : Env} {R : Room} {s : State} {m : MethodId} {args : Array Value} {below : List Frame} {meth : Method} {c : Code} {Q : State → Prop} {G : am_Γ} {z : Nat} {X0 : am_X} {call : Nat → List am_V → am_M → am_X → Option am_R} {pc : Nat} {ls : am_S} {st : List am_V} {M : am_M} {X : am_X} {H : Heap} {locs : List Loc} {cells slots : Nat} {lsc : Array Slot}
set_option maxRecDepth 8000 in
theorem am_back {d y : Nat} {as : List am_V} {r : am_R} (hcon : am_Con l d y as M X r) (hy : am_zk y) (hts : ∀ w ∈ am_W, w.before args s = true) (hfr : d + 27 ≤ R.frames) (hlo : 31 * d + 751 ≤ R.locals) : vx_Back l R p e below s args (am_y y) 3 8 (PreOf R (am_dc X r) (am_ds X r) (am_Pc G M X as)) (PostOf (am_Qr G r) (am_dc X r) (am_ds X r) (am_A G)) (vx_Post (am_XCr G r) (am_dc X r) (am_ds X r) (am_A G)) := by
  obtain ⟨f1, -, f3, -, -, -, f7, -, f9, -⟩ := am_z_facts hy
  have hws : ∀ w ∈ am_ws y, ∀ (a' : Array Value) (U : State), s.WarmedH U.vm → w.before a' U = true := by
    intro w hw a' U hW
    have hw2 : w ∈ am_W := by
      rcases List.mem_cons.mp hw with e | h
      · rw [e]; exact f1
      · exact h
    exact am_W_warm hW hw2 (hts w hw2)
  have hini : ∀ (a' : Array Value) (U : State), s.WarmedH U.vm → (Cond.initialized (am_y y).cls).before a' U = true := by
    intro a' U hW
    rw [f3]
    exact am_W_warm hW (am_init_w f7) (hts _ (am_init_w f7))
  have hmem : am_cw y ∈ am_ws y := List.mem_cons_self
  by_cases ht : am_tr y = true
  · rw [show am_cw y = .code (am_y y) (am_by y) (am_mL y) (am_ret y) from if_pos ht] at hmem
    exact vx_back (hcon G) am_blind rfl rfl (by show d + 26 + 1 ≤ _; omega) (by show 8 + (am_mL y + 11) + (31 * d + 720) ≤ _; omega) hws hmem hini
  · rw [show am_cw y = .codeWith (am_y y) (am_by y) (am_mL y) (am_ret y) (am_hh y) from if_neg ht] at hmem
    exact vx_backW (hcon G) am_blind rfl rfl (by show d + 26 + 1 ≤ _; omega) (by show 8 + (am_mL y + 11) + (31 * d + 720) ≤ _; omega) hws hmem hini
/-- a call, from what its contract says and the machine's first step -/
theorem am_runK {yn : MethodName} {mc ms : Nat} {Pc : Array Value → State → Prop} {Qc : Array Value → State → Outcome → State → Prop} {XC : String → State → State → Prop} {free : Addr → Prop} {g : JFrame} {rest : List Value} {a : Array Value} {ig : Instr} {mk : MethodId}
    (hK : vx_Back l R p e below s args yn 3 8 (PreOf R mc ms Pc) (PostOf Qc mc ms free) (vx_Post XC mc ms free)) (hg : g.method = m) (hsize : g.locals.size = c.maxLocals) (hdg : decode c.code g.pc = .ok (ig, 3)) (hW : 2 * g.monitorRoom + (rest.map fun v => v.category).sum ≤ 8) (hf : cells + mc ≤ R.cells ∧ slots + ms ≤ R.slots) (hnamed : s.methodNamed? yn = some mk)
    (hX : ∀ T : State, T.heap = H → Stand p l e R s m args below meth c T locs cells slots → ∃ vm₁ : Vm, Stand p l e R s m args below meth c (T.setVm vm₁) locs cells slots ∧ ∀ target, (∀ acts, Steps p.tables e below (doInvoke e ((T.setVm vm₁).setTop { g with stack := rest }) acts mk a).1 target) → Steps p.tables e below (T.setTop g) target)
    (hPc : ∀ U : State, U.heap = H → s.WarmedH U.vm → Pc a U) : vx_Run p l e R s m args below meth c H locs cells slots mc ms g rest (Qc a) XC free := by
  intro T hT Y
  obtain ⟨vm₁, X₁, hstep₁⟩ := hX T hT Y
  rcases hK m meth c ⟨T.setVm vm₁, locs, cells, slots⟩ { g with stack := rest } ig mk a X₁ hg hsize hdg hW (X₁.named hnamed) ⟨hf.1, hf.2, hPc (T.setVm vm₁) hT X₁.warmed⟩ with ⟨v, ⟨U', l2, c2, s2⟩, X', ⟨g', mk', t, L, e1, e2, hq, h1, hL, h2, h3⟩, st⟩ | ⟨q, ⟨U', l2, c2, s2⟩, X', ⟨g', mk', t, L, E, ce, e1, e2, hq, hce, hcv, hcl, h1, hL, h2, h3⟩, st⟩
  · dsimp only [Pt.U, Pt.locs, Pt.cells, Pt.slots] at X' e1 e2 h1 h2 h3 st
    subst h1; subst h2; subst h3
    exact Or.inl ⟨v, (T.setVm vm₁).calling g' mk' a, t, U', L, hT, X', hL, e1, e2, hq, fun target h => hstep₁ _ fun acts => by rw [doInvoke_state]; exact st.trans h⟩
  · dsimp only [Pt.U, Pt.locs, Pt.cells, Pt.slots] at X' e1 e2 h1 h2 h3 st hcl
    subst h1; subst h2; subst h3
    exact Or.inr ⟨q, (T.setVm vm₁).calling g' mk' a, t, U', L, E, ce, hT, X', hL, e1, e2, hq, hce, hcv, vx_cls X₁.warmed hcl, hstep₁ _ fun acts => by rw [doInvoke_state]; exact st⟩
theorem am_pre (C : am_Cx p l s m args meth c G z) (hnc : am_Nc G s) (hH : am_HR G M X H) (hS : va_S (am_A G) s.heap H locs) {as : List am_V} : ∀ U : State, U.heap = H → s.WarmedH U.vm → am_Pc G M X as (as.map (am_tv G)).toArray U := by
  obtain ⟨hx, hb, hml, hown, hts, hK, hU, hN, hX, hbb, hlk, hst, hini⟩ := C
  intro U hU0 hW
  exact ⟨rfl, by rw [hU0]; exact hH, va_K.moved hW.alike hK, by rw [hU0]; exact vx_Zq.moved hW.alike (hU.kept hS.2.1), by rw [hU0]; exact vx_Zq.moved hW.alike (hN.kept hS.2.1), by rw [hU0]; exact va_X.moved hW.alike (hX.kept (hS.2.1 _ (by omega) (by show ¬ am_b0 G ≤ G.2.1; omega))), ⟨hbb.1, by rw [hU0]; exact Nat.le_trans hbb.2.1 hS.1, hbb.2.2⟩, fun q hq => va_Nc.moved hW.alike (hnc.1 q hq), (by rw [hU0]; exact (hnc.2.1.kept (fun q hq => hS.2.1 q (by omega) (by show ¬ am_b0 G ≤ q; omega))).warm hW), (by rw [hU0]; exact am_Js.moved hW.alike (hnc.2.2.1.kept hS.2.1)), hnc.2.2.2.warm hW⟩
theorem am_len {y : Nat} {vs : List am_V} (hy : am_zk y) (hlen : vs.length = am_na y) : ∀ sig, parseMethodDescriptor (am_y y).desc = some sig → (vs.reverse.map (am_tv G)).length = sig.parameters.length := by
  intro sig h
  have f5 := (am_z_facts hy).2.2.2.2.1
  rw [h] at f5
  rw [List.length_map, List.length_reverse, hlen]
  exact (Option.some.inj f5).symm
theorem am_stk {vs rest : List am_V} {l0 : am_L} (hl0 : l0.1 ≠ 0) : (vs ++ .inr (some l0) :: rest).map (am_tv G) = (vs.reverse.map (am_tv G)).reverse ++ .ref (am_adr G l0) :: rest.map (am_tv G) := by
  rw [List.map_append, List.map_cons, ← List.map_reverse, List.reverse_reverse, show am_tv G (.inr (some l0)) = .ref (am_adr G l0) from am_rv_ref hl0]
theorem am_stk0 {vs rest : List am_V} : (vs ++ rest).map (am_tv G) = (vs.reverse.map (am_tv G)).reverse ++ rest.map (am_tv G) := by
  rw [List.map_append, ← List.map_reverse, List.reverse_reverse]
theorem am_arg {as : List am_V} {l0 : am_L} (hl0 : l0.1 ≠ 0) : ((.inr (some l0) :: as : List am_V).map (am_tv G)).toArray = (Value.ref (am_adr G l0) :: as.map (am_tv G)).toArray := by
  rw [List.map_cons, show am_tv G (.inr (some l0)) = .ref (am_adr G l0) from am_rv_ref hl0]
theorem am_run_v {d ix y : Nat} {vs rest : List am_V} {l0 : am_L} {r : am_R} (C : am_Cx p l s m args meth c G z) (hnc : am_Nc G s) (hm : am_ml (am_own z) ix = some (0, y)) (dg : decode (am_by z) pc = .ok (.invokevirtual ix, 3)) (hlen : vs.length = am_na y) (h4 : rest.length ≤ 4) (hal : am_al X.2.1 l0 = true) (hkd : am_kd l0 = (0, am_own y, 0)) (hcon : am_Con l d y (.inr (some l0) :: vs.reverse) M X r) (hfr : d + 27 ≤ R.frames) (hlo : 31 * d + 751 ≤ R.locals) (hH : am_HR G M X H) (hS : va_S (am_A G) s.heap H locs) (hsz : lsc.size = am_mL z) (hf : cells + am_dc X r ≤ R.cells ∧ slots + am_ds X r ≤ R.slots) :
    vx_Run p l e R s m args below meth c H locs cells slots (am_dc X r) (am_ds X r) (F0 m pc lsc ((vs ++ .inr (some l0) :: rest).map (am_tv G))) (rest.map (am_tv G)) (am_Qr G r ((.inr (some l0) :: vs.reverse : List am_V).map (am_tv G)).toArray) (am_XCr G r) (am_A G) := by
  obtain ⟨i, hi⟩ := am_al2_in am_ml_ok _ (am_look_in hm)
  simp only [am_mlw, Bool.and_eq_true, decide_eq_true_eq, beq_iff_eq] at hi
  obtain ⟨-, ⟨⟨hlk0, hks⟩, hy⟩, htr⟩ := hi
  have hpre := am_pre C hnc hH hS (as := .inr (some l0) :: vs.reverse)
  have hl0 := am_kd_ne hkd (by decide)
  have hci := am_kd_ci hkd
  have hc0 := hH.1 l0 hal hl0
  unfold am_cell at hc0
  simp only [hkd] at hc0
  obtain ⟨cellB, q1, q2, q3, -⟩ := hc0
  obtain ⟨hx, hb, hml, hown, hts, hK, hU, hN, hX, hbb, hlk, hst, hini⟩ := C
  obtain ⟨f1, ⟨-, f2, -, -⟩, f3, f4, f5, -⟩ := am_z_facts hy
  obtain ⟨f6, f7⟩ := f2 hks
  rw [show am_cw y = .code (am_y y) (am_by y) (am_mL y) (am_ret y) from if_pos htr] at f1
  have hcls := (hK.1 (am_own y) _ (am_cl_at _ hci)).2.1
  obtain ⟨mk, methM, hnamed, hmethM, hstM, habM⟩ := Cond.instanceMethod_spec (hts _ f6)
  obtain ⟨methM', cM, hmethM', -, -, -, -, -, -, hsigM⟩ := Cond.code_spec hnamed (hts _ f1)
  cases hmethM.symm.trans hmethM'
  obtain ⟨c2, r2, m2, g1, g2, g3, g4, kP, hkP, hkPi⟩ := Cond.selects_spec (hts _ f7)
  have hclB : s.vm.findClass (am_cR (am_own y)) = some cellB.cls := by rw [q2]; exact hcls
  cases hclB.symm.trans g1
  cases (State.methodFound?_of_named hnamed f4).symm.trans g2
  cases hnamed.symm.trans g3
  refine am_runK (am_back hcon hy hts hfr hlo) (ig := .invokevirtual ix) rfl (by rw [hml]; exact hsz) (by rw [hb]; exact dg) (lv_room (am_cat rest h4)) hf hnamed (fun T hT Y => ?_) hpre
  have hselP : selectMethod e.platform s.vm cellB.cls mk = .method mk := by rw [Launch.admits_selectMethod Y.admits]; exact g4
  rw [am_arg hl0]
  exact Y.invokevirtual hx hown (hts _ (am_at_in hlk0)) hnamed hmethM hstM hkP hkPi f4 (a := am_adr G l0) (cell := cellB) (by rw [hT]; exact q1) (fun z h => by rw [q3] at h; cases h) hselP hmethM habM hkP hkPi (g := F0 m pc lsc ((vs ++ .inr (some l0) :: rest).map (am_tv G))) rfl (argsL := vs.reverse.map (am_tv G)) (rest := rest.map (am_tv G)) (am_len hy hlen _ hsigM) (am_stk hl0) (by rw [hb]; exact dg)
theorem am_run_s {d ix y k : Nat} {vs rest : List am_V} {r : am_R} (C : am_Cx p l s m args meth c G z) (hnc : am_Nc G s) (hm : am_ml (am_own z) ix = some (k, y)) (hk : k = 1 ∨ k = 4) (dg : decode (am_by z) pc = .ok (.invokestatic ix, 3)) (hlen : vs.length = am_na y) (h4 : rest.length ≤ 4) (hcon : am_Con l d y vs.reverse M X r) (hfr : d + 27 ≤ R.frames) (hlo : 31 * d + 751 ≤ R.locals) (hH : am_HR G M X H) (hS : va_S (am_A G) s.heap H locs) (hsz : lsc.size = am_mL z) (hf : cells + am_dc X r ≤ R.cells ∧ slots + am_ds X r ≤ R.slots) :
    vx_Run p l e R s m args below meth c H locs cells slots (am_dc X r) (am_ds X r) (F0 m pc lsc ((vs ++ rest).map (am_tv G))) (rest.map (am_tv G)) (am_Qr G r (vs.reverse.map (am_tv G)).toArray) (am_XCr G r) (am_A G) := by
  obtain ⟨i, hi⟩ := am_al2_in am_ml_ok _ (am_look_in hm)
  have hpre := am_pre C hnc hH hS (as := vs.reverse)
  obtain ⟨hx, hb, hml, hown, hts, hK, hU, hN, hX, hbb, hlk, hst, hini⟩ := C
  have go : ∀ (hy : am_zk y) (hks : am_ks y = 0) (_ : (Cond.methodLink (am_cR (am_own z)) ix (am_y y)).before args s = true ∨ (Cond.methodLinkNest (am_cR (am_own z)) ix (am_y y) "BellTelegraph").before args s = true), vx_Run p l e R s m args below meth c H locs cells slots (am_dc X r) (am_ds X r) (F0 m pc lsc ((vs ++ rest).map (am_tv G))) (rest.map (am_tv G)) (am_Qr G r (vs.reverse.map (am_tv G)).toArray) (am_XCr G r) (am_A G) := by
    intro hy hks hlink
    obtain ⟨f1, ⟨f2, -, -, -⟩, f3, f4, f5, -, f7, -⟩ := am_z_facts hy
    obtain ⟨mk, methM, hnamed, hmethM, hsigM⟩ := am_named hy hts
    have hstatic : methM.isStatic = true := Cond.static_spec hnamed hmethM (hts _ (f2 hks))
    obtain ⟨kP, hkP, -⟩ := className_of_methodNamed hnamed
    have hinitP : kP.init = .initialized := Cond.initialized_spec (findClass_of_methodNamed hnamed) hkP (by rw [f3]; exact hts _ (am_init_w f7))
    refine am_runK (am_back hcon hy hts hfr hlo) (ig := .invokestatic ix) rfl (by rw [hml]; exact hsz) (by rw [hb]; exact dg) (lv_room (am_cat rest h4)) hf hnamed (fun T hT Y => ?_) hpre
    rcases hlink with hlink | hlink
    · exact Y.invokestatic hx hown hlink hnamed hmethM hstatic hkP hinitP f4 (g := F0 m pc lsc ((vs ++ rest).map (am_tv G))) rfl (argsL := vs.reverse.map (am_tv G)) (rest := rest.map (am_tv G)) (am_len hy hlen _ hsigM) am_stk0 (by rw [hb]; exact dg)
    · exact Y.invokestaticNest hx hown hlink hnamed hmethM hstatic hkP hinitP f4 (g := F0 m pc lsc ((vs ++ rest).map (am_tv G))) rfl (argsL := vs.reverse.map (am_tv G)) (rest := rest.map (am_tv G)) (am_len hy hlen _ hsigM) am_stk0 (by rw [hb]; exact dg)
  rcases hk with rfl | rfl
  · simp only [am_mlw, Bool.and_eq_true, decide_eq_true_eq, beq_iff_eq] at hi
    obtain ⟨-, ⟨hlk0, hks⟩, hy⟩ := hi
    exact go hy hks (Or.inl (hts _ (am_at_in hlk0)))
  · simp only [am_mlw, Bool.and_eq_true, decide_eq_true_eq, beq_iff_eq] at hi
    obtain ⟨-, ⟨⟨hlk0, hks⟩, hy⟩, -⟩ := hi
    exact go hy hks (Or.inr (hts _ (am_at_in hlk0)))
theorem am_run_i {d ix y k : Nat} {vs rest : List am_V} {l0 : am_L} {r : am_R} (C : am_Cx p l s m args meth c G z) (hnc : am_Nc G s) (hm : am_ml (am_own z) ix = some (k, y)) (hk : k = 2 ∨ k = 3) (dg : decode (am_by z) pc = .ok (.invokespecial ix, 3)) (hlen : vs.length = am_na y) (h4 : rest.length ≤ 4) (hkd : am_kd l0 = (0, am_own y, 0)) (hcon : am_Con l d y (.inr (some l0) :: vs.reverse) M X r) (hfr : d + 27 ≤ R.frames) (hlo : 31 * d + 751 ≤ R.locals) (hH : am_HR G M X H) (hS : va_S (am_A G) s.heap H locs) (hsz : lsc.size = am_mL z) (hf : cells + am_dc X r ≤ R.cells ∧ slots + am_ds X r ≤ R.slots) :
    vx_Run p l e R s m args below meth c H locs cells slots (am_dc X r) (am_ds X r) (F0 m pc lsc ((vs ++ .inr (some l0) :: rest).map (am_tv G))) (rest.map (am_tv G)) (am_Qr G r ((.inr (some l0) :: vs.reverse : List am_V).map (am_tv G)).toArray) (am_XCr G r) (am_A G) := by
  obtain ⟨i, hi⟩ := am_al2_in am_ml_ok _ (am_look_in hm)
  have hpre := am_pre C hnc hH hS (as := .inr (some l0) :: vs.reverse)
  have hl0 := am_kd_ne hkd (by decide)
  obtain ⟨hx, hb, hml, hown, hts, hK, hU, hN, hX, hbb, hlk, hst, hini⟩ := C
  have go : ∀ (hy : am_zk y) (hks : am_ks y = 2) (htr : am_tr y = true) (_ : (Cond.methodLink (am_cR (am_own z)) ix (am_y y)).before args s = true ∨ (Cond.methodLinkNest (am_cR (am_own z)) ix (am_y y) "BellTelegraph").before args s = true), vx_Run p l e R s m args below meth c H locs cells slots (am_dc X r) (am_ds X r) (F0 m pc lsc ((vs ++ .inr (some l0) :: rest).map (am_tv G))) (rest.map (am_tv G)) (am_Qr G r ((.inr (some l0) :: vs.reverse : List am_V).map (am_tv G)).toArray) (am_XCr G r) (am_A G) := by
    intro hy hks htr hlink
    obtain ⟨f1, ⟨-, -, f2, -⟩, f3, f4, f5, -, f7, -⟩ := am_z_facts hy
    obtain ⟨f6, f8⟩ := f2 hks
    rw [show am_cw y = .code (am_y y) (am_by y) (am_mL y) (am_ret y) from if_pos htr, am_ini_ret y hy.1 hks] at f1
    obtain ⟨mk, methM, hnamed, hmethM, hsigM⟩ := am_named hy hts
    refine am_runK (am_back hcon hy hts hfr hlo) (ig := .invokespecial ix) rfl (by rw [hml]; exact hsz) (by rw [hb]; exact dg) (lv_room (am_cat rest h4)) hf hnamed (fun T hT Y => ?_) hpre
    have hpl : e.platform.magicAccessors = ({} : Platform).magicAccessors := by rw [Y.admits.platform]
    rw [am_arg hl0]
    rcases hlink with hlink | hlink
    · obtain ⟨mk2, methM2, cM, kP, vm₁, hn2, -, -, -, -, -, -, -, hW₁, hstep₁⟩ := Steps.initColdArgs (e := e) Y.here hx Y.warmed hpl hown f8 f4 hlink (hts _ f6) (hts _ f1) (f := F0 m pc lsc ((vs ++ .inr (some l0) :: rest).map (am_tv G))) rfl (fun sig h => am_len (G := G) hy hlen sig h) (am_stk hl0) (by rw [hb]; exact dg)
      cases hnamed.symm.trans hn2
      exact ⟨vm₁, Y.noted hW₁, hstep₁⟩
    · obtain ⟨mk2, methM2, cM, kP, vm₁, hn2, -, -, -, -, -, -, -, hW₁, hstep₁⟩ := Steps.initColdArgsNest (e := e) Y.here hx Y.warmed hpl hown f8 f4 hlink (hts _ f6) (hts _ f1) (f := F0 m pc lsc ((vs ++ .inr (some l0) :: rest).map (am_tv G))) rfl (fun sig h => am_len (G := G) hy hlen sig h) (am_stk hl0) (by rw [hb]; exact dg)
      cases hnamed.symm.trans hn2
      exact ⟨vm₁, Y.noted hW₁, hstep₁⟩
  rcases hk with rfl | rfl
  · simp only [am_mlw, Bool.and_eq_true, decide_eq_true_eq, beq_iff_eq] at hi
    obtain ⟨-, ⟨⟨hlk0, hks⟩, hy⟩, htr⟩ := hi
    exact go hy hks htr (Or.inl (hts _ (am_at_in hlk0)))
  · simp only [am_mlw, Bool.and_eq_true, decide_eq_true_eq, beq_iff_eq] at hi
    obtain ⟨-, ⟨⟨hlk0, hks⟩, hy⟩, htr⟩ := hi
    exact go hy hks htr (Or.inr (hts _ (am_at_in hlk0)))
/-- behind a call that returned -/
theorem am_after_v {st0 rest : List Value} {a : Array Value} {r : am_R} {v : Option am_V} (hr : vx_Run p l e R s m args below meth c H locs cells slots (am_dc X r) (am_ds X r) (F0 m pc lsc st0) rest (am_Qr G r a) (am_XCr G r) (am_A G)) (hS : va_S (am_A G) s.heap H locs) (hrv : r.1 = .inl v)
    (kk : ∀ (H1 : Heap) (locs1 : List Loc), am_HR G r.2.1 r.2.2 H1 → va_S (am_A G) s.heap H1 locs1 → W p l e R s m args below meth c H1 locs1 (cells + am_dc X r) (slots + am_ds X r) Q (F0 m (pc + 3) lsc ((v.map (am_tv G)).toList ++ rest))) : W p l e R s m args below meth c H locs cells slots Q (F0 m pc lsc st0) := by
  intro T hT Y
  rcases hr T hT Y with ⟨v', st₀, t, T', L, h0, X', hL, e1, e2, ⟨v2, g1, g2, g3, g4⟩, st⟩ | ⟨q, st₀, t, T', L, E, ce, h0, X', hL, e1, e2, ⟨E2, g1, -⟩, -⟩
  · rw [hrv] at g1
    cases g1
    cases g2
    obtain ⟨k1, k2, k3⟩ := vx_keep h0 e1 hS (fun q _ h => h) (fun q h => h) hL g4
    obtain ⟨t2, a1, b1⟩ := kk T'.heap (locs ++ L) (by rw [e1]; exact g3) k3 T' rfl X'
    exact ⟨t2, st t2 a1, b1⟩
  · rw [hrv] at g1
    cases g1
/-- behind a call that threw -/
theorem am_after_x {st0 rest : List Value} {a : Array Value} {r : am_R} {E : Nat} (hr : vx_Run p l e R s m args below meth c H locs cells slots (am_dc X r) (am_ds X r) (F0 m pc lsc st0) rest (am_Qr G r a) (am_XCr G r) (am_A G)) (hS : va_S (am_A G) s.heap H locs) (hrv : r.1 = .inr E)
    (kx : ∀ (H1 : Heap) (locs1 : List Loc) (q : Addr) (ce : Cell), am_HR G r.2.1 r.2.2 H1 → va_S (am_A G) s.heap H1 locs1 → H1[q]? = some ce → ce.vm = .none → s.vm.findClass (am_en E) = some ce.cls → vx_W p l e R s m args below meth c H1 locs1 (cells + am_dc X r) (slots + am_ds X r) Q (F0 m pc lsc rest) q) : W p l e R s m args below meth c H locs cells slots Q (F0 m pc lsc st0) := by
  intro T hT Y
  rcases hr T hT Y with ⟨v', st₀, t, T', L, h0, X', hL, e1, e2, ⟨v2, g1, g2, g3, g4⟩, st⟩ | ⟨q, st₀, t, T', L, E1, ce, h0, X', hL, e1, e2, ⟨E2, g1, g2, g3, g4⟩, hce, hcv, hcl, st⟩
  · rw [hrv] at g1
    cases g1
  · rw [hrv] at g1
    cases g1
    subst g2
    obtain ⟨k1, k2, k3⟩ := vx_keep h0 e1 hS (fun q _ h => h) (fun q h => h) hL g4
    obtain ⟨t2, a1, b1⟩ := kx T'.heap (locs ++ L) q ce (by rw [e1]; exact g3) k3 (by rw [e1]; exact hce) hcv hcl T' rfl X'
    exact ⟨t2, st.trans a1, b1⟩
theorem am_cas {E : Nat} (hE : E < 6) : Cond.castable (am_en E) (am_en E) ∈ am_W := by
  obtain ⟨i, hi⟩ := am_al2_in am_cas_ok _ (List.mem_range.mpr hE)
  exact am_at_in hi
/-- a handler takes it, and puts it into a local -/
theorem am_catch1 {E t j : Nat} {q0 : Nat × Nat × Nat × Nat} {h0 : Nat × Nat × Nat × Nat × Nat} {i0 : Nat} {pre suf : List ExceptionTableEntry} (C : am_Cx p l s m args meth c G z) (he : am_he z q0 h0 i0 = true) (hcv : h0.1 ≤ pc ∧ pc < h0.2.1 ∧ h0.2.2.1 = E) (htj : h0.2.2.2 = (t, j)) (hj : j < am_mL z) (hsplit : c.exceptionTable.toList = pre ++ ⟨q0.1, q0.2.1, q0.2.2.1, q0.2.2.2⟩ :: suf) (hpass : ∀ y ∈ pre, covers y pc = false ∨ (y.catchType ≠ 0 ∧ ∃ nm : String, (Cond.classLink (am_cR (am_own z)) y.catchType nm).before args s = true ∧ va_Nc (am_en E) nm s))
    {rest : List Value} {q : Addr} {ce : Cell} (hl : am_lv G (am_mL z) ls lsc) (hcell : H[q]? = some ce) (hv : ce.vm = .none) (hcl : s.vm.findClass (am_en E) = some ce.cls)
    (kk : ∀ lsc' : Array Slot, am_lv G (am_mL z) (am_put ls j none) lsc' → W p l e R s m args below meth c H locs cells slots Q (F0 m t lsc' [])) : vx_W p l e R s m args below meth c H locs cells slots Q (F0 m pc lsc rest) q := by
  obtain ⟨hx, hb, hml, hown, hts, hK, hU, hN, hX, hbb, hlk, hst, hini⟩ := C
  simp only [am_he, Bool.and_eq_true, decide_eq_true_eq] at he
  obtain ⟨⟨⟨⟨⟨⟨e1, e2⟩, e3⟩, e4⟩, e5⟩, e6⟩, e7⟩ := he
  obtain ⟨b1, b2, b3⟩ := hcv
  have ht : h0.2.2.2.1 = t := by rw [htj]
  have hj' : h0.2.2.2.2 = j := by rw [htj]
  rw [b3] at e4 e5
  have hlen : ls.length = am_mL z := hl.2
  refine vx_catch hown pre ⟨q0.1, q0.2.1, q0.2.2.1, q0.2.2.2⟩ suf hsplit hpass (by simp only [covers, Bool.and_eq_true, decide_eq_true_eq]; omega) e3 (name := am_en E) (by rw [e6]; exact hts _ (am_at_in e5)) (hts _ (am_cas e4)) hcell hv hcl ?_
  show W p l e R s m args below meth c H locs cells slots Q (F0 m q0.2.2.1 lsc [.ref q])
  split at e7
  · rename_i k hcd
    simp only [Bool.and_eq_true, decide_eq_true_eq] at e7
    have hk : k.val = j := e7.1.trans hj'
    have ht2 : q0.2.2.1 + 1 = t := e7.2.trans ht
    refine lv_astore_n hx hb (am_dg hcd rfl (by decide)) hk hl.1 hj rfl (fun lsc' hl' => ?_)
    rw [ht2]
    exact kk lsc' (am_lv.sub hl' (by rw [am_put_len]; exact hl.2) (am_put_sub (by omega) none _ (fun u e => by cases e)))
  · rename_i k hcd
    simp only [Bool.and_eq_true, decide_eq_true_eq] at e7
    have hk : k = j := e7.1.trans hj'
    have ht2 : q0.2.2.1 + 2 = t := e7.2.trans ht
    subst hk
    refine lv_astore hx hb (am_dg hcd rfl (by decide)) hl.1 hj rfl (fun lsc' hl' => ?_)
    rw [ht2]
    exact kk lsc' (am_lv.sub hl' (by rw [am_put_len]; exact hl.2) (am_put_sub (by omega) none _ (fun u e => by cases e)))
  · cases e7
theorem am_catch {E t j : Nat} (hz : z < 232) (C : am_Cx p l s m args meth c G z) (hnc : am_Nc G s) (htab : c.exceptionTable.toList = tableOf (am_hh z)) (hd : am_hd z pc E = some (t, j)) {rest : List Value} {q : Addr} {ce : Cell} (hl : am_lv G (am_mL z) ls lsc) (hcell : H[q]? = some ce) (hv : ce.vm = .none) (hcl : s.vm.findClass (am_en E) = some ce.cls)
    (kk : ∀ lsc' : Array Slot, am_lv G (am_mL z) (am_put ls j none) lsc' → W p l e R s m args below meth c H locs cells slots Q (F0 m t lsc' [])) : vx_W p l e R s m args below meth c H locs cells slots Q (F0 m pc lsc rest) q := by
  obtain ⟨is, hk⟩ := am_hk_ok z
  rw [Bool.and_eq_true] at hk
  obtain ⟨hk1, hk2⟩ := hk
  have hj := am_hj hz
  unfold am_hd at hd
  unfold am_hps at hk2
  have hts := C.2.2.2.2.1
  split at hk2
  · rename_i e0
    rw [e0] at hd
    cases hd
  · rename_i a e0
    rw [e0] at hd hk1 hj
    unfold am_hf at hd
    split at hd
    · rename_i hcv
      cases hh : am_hh z with
      | nil => rw [hh] at hk1; cases hk1
      | cons q0 qs =>
        rw [hh] at hk1 htab
        cases is with
        | nil => cases hk1
        | cons i0 is =>
          simp only [am_hes, Bool.and_eq_true] at hk1
          cases qs with
          | cons => exact absurd hk1.2 (by simp [am_hes])
          | nil =>
            have htj := Option.some.inj hd
            exact am_catch1 C hk1.1 hcv htj (by have := hj a (by simp); rw [htj] at this; exact this) (pre := []) (suf := []) htab (fun y h => by cases h) hl hcell hv hcl kk
    · cases hd
  · rename_i a b e0
    rw [e0] at hd hk1 hj
    have hncs := of_decide_eq_true hk2
    cases hh : am_hh z with
    | nil => rw [hh] at hk1; cases hk1
    | cons q0 qs =>
      rw [hh] at hk1 htab
      cases is with
      | nil => cases hk1
      | cons i0 is =>
        simp only [am_hes, Bool.and_eq_true] at hk1
        obtain ⟨ha, hk1⟩ := hk1
        cases qs with
        | nil => cases hk1
        | cons q1 qs =>
          cases is with
          | nil => cases hk1
          | cons i1 is =>
            simp only [am_hes, Bool.and_eq_true] at hk1
            obtain ⟨hb, hk1⟩ := hk1
            cases qs with
            | cons => exact absurd hk1 (by simp [am_hes])
            | nil =>
              unfold am_hf at hd
              split at hd
              · rename_i hcv
                have htj := Option.some.inj hd
                exact am_catch1 C ha hcv htj (by have := hj a (by simp); rw [htj] at this; exact this) (pre := []) (suf := [⟨q1.1, q1.2.1, q1.2.2.1, q1.2.2.2⟩]) htab (fun y h => by cases h) hl hcell hv hcl kk
              · rename_i hncv
                unfold am_hf at hd
                split at hd
                · rename_i hcv
                  have htj := Option.some.inj hd
                  refine am_catch1 C hb hcv htj (by have := hj b (by simp); rw [htj] at this; exact this) (pre := [⟨q0.1, q0.2.1, q0.2.2.1, q0.2.2.2⟩]) (suf := []) htab (fun y h => ?_) hl hcell hv hcl kk
                  rw [List.mem_singleton] at h
                  subst h
                  simp only [am_he, Bool.and_eq_true, decide_eq_true_eq] at ha
                  obtain ⟨⟨⟨⟨⟨⟨e1, e2⟩, e3⟩, e4⟩, e5⟩, e6⟩, e7⟩ := ha
                  refine Or.inr ⟨e3, am_en a.2.2.1, by rw [e6]; exact hts _ (am_at_in e5), ?_⟩
                  rw [← hcv.2.2]
                  exact hnc.1 _ hncs
                · cases hd
  · cases hk2
end AmCalls
