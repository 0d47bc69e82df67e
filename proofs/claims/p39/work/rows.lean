section
-- ===== PART A: goes FIRST, ahead of the names: the tables' words, and 'selects' of the private methods out of them =====
/-- a private method of a class that the tables say can be made, by its rows of tables_1 -/
def lw_okq (q : MethodName × Nat) : Prop := (q.1.cls ≠ "java/lang/invoke/MethodHandle" ∧ q.1.cls ≠ "java/lang/invoke/VarHandle") ∧ Cond.instantiable q.1.cls q.2 ∈ tables_1 ∧ Cond.privateMethod q.1 ∈ tables_1 ∧ Cond.instanceMethod q.1 ∈ tables_1
theorem lw_p0 : lw_okq (⟨"BellTelegraph", "changeBySingle", "()I"⟩, 11) := ⟨⟨by decide +kernel, by decide +kernel⟩, List.mem_of_getElem? (i := 35) (by decide +kernel), List.mem_of_getElem? (i := 379) (by decide +kernel), List.mem_of_getElem? (i := 380) (by decide +kernel)⟩
theorem lw_p1 : lw_okq (⟨"java/lang/Throwable", "fillInStackTrace", "(I)Ljava/lang/Throwable;"⟩, 6) := ⟨⟨by decide +kernel, by decide +kernel⟩, List.mem_of_getElem? (i := 579) (by decide +kernel), List.mem_of_getElem? (i := 577) (by decide +kernel), List.mem_of_getElem? (i := 578) (by decide +kernel)⟩
theorem lw_p2 : lw_okq (⟨"BellTelegraph", "askedConvent", "(I)LBellTelegraph$Convent;"⟩, 11) := ⟨⟨by decide +kernel, by decide +kernel⟩, List.mem_of_getElem? (i := 35) (by decide +kernel), List.mem_of_getElem? (i := 671) (by decide +kernel), List.mem_of_getElem? (i := 672) (by decide +kernel)⟩
theorem lw_p3 : lw_okq (⟨"BellTelegraph", "askedMessage", "(I)LBellTelegraph$Message;"⟩, 11) := ⟨⟨by decide +kernel, by decide +kernel⟩, List.mem_of_getElem? (i := 35) (by decide +kernel), List.mem_of_getElem? (i := 715) (by decide +kernel), List.mem_of_getElem? (i := 716) (by decide +kernel)⟩
theorem lw_p4 : lw_okq (⟨"BellTelegraph", "askedNeighbour", "(IZ)I"⟩, 11) := ⟨⟨by decide +kernel, by decide +kernel⟩, List.mem_of_getElem? (i := 35) (by decide +kernel), List.mem_of_getElem? (i := 761) (by decide +kernel), List.mem_of_getElem? (i := 762) (by decide +kernel)⟩
theorem lw_p5 : lw_okq (⟨"BellTelegraph", "hoursUntilArrived", "(LBellTelegraph$Message;I)I"⟩, 11) := ⟨⟨by decide +kernel, by decide +kernel⟩, List.mem_of_getElem? (i := 35) (by decide +kernel), List.mem_of_getElem? (i := 773) (by decide +kernel), List.mem_of_getElem? (i := 774) (by decide +kernel)⟩
theorem lw_p6 : lw_okq (⟨"BellTelegraph", "writeDigit", "(I)V"⟩, 11) := ⟨⟨by decide +kernel, by decide +kernel⟩, List.mem_of_getElem? (i := 35) (by decide +kernel), List.mem_of_getElem? (i := 980) (by decide +kernel), List.mem_of_getElem? (i := 981) (by decide +kernel)⟩
theorem lw_p7 : lw_okq (⟨"BellTelegraph", "write", "(C)V"⟩, 11) := ⟨⟨by decide +kernel, by decide +kernel⟩, List.mem_of_getElem? (i := 35) (by decide +kernel), List.mem_of_getElem? (i := 984) (by decide +kernel), List.mem_of_getElem? (i := 985) (by decide +kernel)⟩
theorem lw_p8 : lw_okq (⟨"BellTelegraph", "askedRidge", "(I)LBellTelegraph$Ridge;"⟩, 11) := ⟨⟨by decide +kernel, by decide +kernel⟩, List.mem_of_getElem? (i := 35) (by decide +kernel), List.mem_of_getElem? (i := 1102) (by decide +kernel), List.mem_of_getElem? (i := 1103) (by decide +kernel)⟩
def lw_privs_1 : List (MethodName × Nat) := [(⟨"BellTelegraph", "changeBySingle", "()I"⟩, 11), (⟨"java/lang/Throwable", "fillInStackTrace", "(I)Ljava/lang/Throwable;"⟩, 6), (⟨"BellTelegraph", "askedConvent", "(I)LBellTelegraph$Convent;"⟩, 11), (⟨"BellTelegraph", "askedMessage", "(I)LBellTelegraph$Message;"⟩, 11), (⟨"BellTelegraph", "askedNeighbour", "(IZ)I"⟩, 11), (⟨"BellTelegraph", "hoursUntilArrived", "(LBellTelegraph$Message;I)I"⟩, 11), (⟨"BellTelegraph", "writeDigit", "(I)V"⟩, 11), (⟨"BellTelegraph", "write", "(C)V"⟩, 11), (⟨"BellTelegraph", "askedRidge", "(I)LBellTelegraph$Ridge;"⟩, 11)]
theorem lw_r1 : ∀ q ∈ lw_privs_1, lw_okq q := List.forall_mem_cons.mpr ⟨lw_p0, List.forall_mem_cons.mpr ⟨lw_p1, List.forall_mem_cons.mpr ⟨lw_p2, List.forall_mem_cons.mpr ⟨lw_p3, List.forall_mem_cons.mpr ⟨lw_p4, List.forall_mem_cons.mpr ⟨lw_p5, List.forall_mem_cons.mpr ⟨lw_p6, List.forall_mem_cons.mpr ⟨lw_p7, List.forall_mem_cons.mpr ⟨lw_p8, fun _ h => absurd h List.not_mem_nil⟩⟩⟩⟩⟩⟩⟩⟩⟩
def lw_privs : List (MethodName × Nat) := lw_privs_1
def lw_tbl : List Cond := k2_sels lw_privs ++ tables_1
theorem lw_privs_ok : ∀ q ∈ lw_privs, lw_okq q := lw_r1
/-- the streams that the claim lets the run draw from -/
abbrev lw_cs : List Choice := [Jvm.Choice.named "NaN.bits"]
theorem lw_bits : nanBits ∈ lw_cs := by first | decide | exact List.mem_cons_self | simp [lw_cs, nanBits]
end
section
/-! ===== BEGIN words of one list among another's, by their places ===== -/
theorem goodIn_r {big : List Cond} (ws : List Cond) (ps : List Nat) (hp : ws = ps.filterMap (fun i => big[i]?)) (h : ws.all goodWord = true) : GoodIn big ws := by
  intro w hw
  have h1 := List.all_eq_true.mp h w hw
  rw [hp] at hw
  obtain ⟨i, -, hi⟩ := List.mem_filterMap.mp hw
  have hm : w ∈ big := by first | exact List.mem_of_getElem? hi | exact List.getElem?_mem hi
  exact ⟨hm, good_of_word h1⟩
theorem goodIn_app {big a b : List Cond} (ha : GoodIn big a) (hb : GoodIn big b) : GoodIn big (a ++ b) := fun w h => (List.mem_append.mp h).elim (ha w) (hb w)
theorem goodIn_ca {big a b : List Cond} {c : Cond} (ha : GoodIn big (c :: a)) (hb : GoodIn big b) : GoodIn big (c :: (a ++ b)) := fun w h => (List.mem_cons.mp h).elim (fun e => ha w (List.mem_cons.mpr (Or.inl e))) (fun h => (List.mem_append.mp h).elim (fun h => ha w (List.mem_cons.mpr (Or.inr h))) (hb w))
theorem goodIn_sub {big ws : List Cond} (hm : ∀ w ∈ ws, w ∈ big) (h : ws.all goodWord = true) : GoodIn big ws := fun w hw => ⟨hm w hw, good_of_word (List.all_eq_true.mp h w hw)⟩
/-! ===== END ===== -/

/-! ===== BEGIN exceptions that leave a method, and their catching by the caller (launches without stack traces) ===== -/
section VXA
/-! The laws vx_back, vx_callV, vx_callS, vx_callSW, vx_throw0, vx_throwS follow proofs of the library, with one case more: JvmDerived/Free/Laws.lean (Back.of_free), Shelf42/LK1.lean (callV, callS), Shelf/KitTraced.lean (throwNew0V, throwNewS). -/
/-- where a method has thrown q: the class by its name, the cell, what was written, the world -/
def vx_T (XC : String → State → State → Prop) (st : State) (q : Addr) (t : State) (mc ms : Nat) (free : Addr → Prop) : Prop :=
  ∃ (E : String) (ce : Cell) (L : List Loc), XC E st t ∧ t.heap[q]? = some ce ∧ ce.vm = .none ∧ st.vm.findClass E = some ce.cls ∧ st.WarmedH t.vm ∧ st.sameButNew ({ t with vm := st.vm } : State) L mc ms ∧ ∀ z ∈ L, free z.base
def vx_Q (Qc : Array Value → State → Outcome → State → Prop) (XC : String → State → State → Prop) (mc ms : Nat) (free : Addr → Prop) : Array Value → State → Outcome → State → Prop := fun a st o t =>
  (Qc a st o t ∧ ∃ L, FrameEnd st o t L mc ms ∧ ∀ q ∈ L, free q.base) ∨ ∃ q, o = .threw q ∧ vx_T XC st q t mc ms free
/-- a callee that returns or throws -/
def vx_Met (l : Launch) (y : MethodName) (ws : List Cond) (rm : Room) (Pc : Array Value → State → Prop) (Qc : Array Value → State → Outcome → State → Prop) (XC : String → State → State → Prop) (mc ms : Nat) (free : Addr → Prop) : Prop :=
  MetFree l y (headSpec ws rm) Pc (fun _ _ _ _ _ => True) (vx_Q Qc XC mc ms free)
def vx_Post (XC : String → State → State → Prop) (mc ms : Nat) (free : Addr → Prop) : Pt → Array Value → Addr → Pt → Prop := fun A a q B =>
  ∃ (g : JFrame) (mk : MethodId) (t : State) (L : List Loc) (E : String) (ce : Cell), B.U.heap = t.heap ∧ B.U.vm = t.vm ∧ XC E (A.U.calling g mk a) t ∧ t.heap[q]? = some ce ∧ ce.vm = .none ∧ A.U.vm.findClass E = some ce.cls ∧ B.locs = A.locs ++ L ∧ (∀ z ∈ L, free z.base) ∧ B.cells = A.cells + mc ∧ B.slots = A.slots + ms
def vx_Back (l : Launch) (R : Room) (p : Program) (e : Env) (below : List Frame) (s : State) (sargs : Array Value) (y : MethodName) (len W9 : Nat)
    (Pre : Pt → Array Value → Prop) (Post : Pt → Array Value → Option Value → Pt → Prop) (PostX : Pt → Array Value → Addr → Pt → Prop) : Prop :=
  ∀ (m : MethodId) (meth : Method) (c : Code) (A : Pt) (g : JFrame) (ig : Instr) (mk : MethodId) (a : Array Value),
    Stand p l e R s m sargs below meth c A.U A.locs A.cells A.slots → g.method = m → g.locals.size = c.maxLocals → decode c.code g.pc = .ok (ig, len) →
    2 * g.monitorRoom + (g.stack.map fun v => v.category).sum ≤ W9 → A.U.methodNamed? y = some mk → Pre A a →
    (∃ (v : Option Value) (B : Pt), Stand p l e R s m sargs below meth c B.U B.locs B.cells B.slots ∧ Post A a v B ∧
      Steps p.tables e below (doInvoke e (A.U.setTop g) [] mk a).1 (B.U.setTop { g with pc := g.pc + len, stack := v.toList ++ g.stack })) ∨
    (∃ (q : Addr) (B : Pt), Stand p l e R s m sargs below meth c B.U B.locs B.cells B.slots ∧ PostX A a q B ∧
      Steps p.tables e below (doInvoke e (A.U.setTop g) [] mk a).1 ((B.U.setTop g).pushFrame (.throwing q)))
section Payer
variable {l : Launch} {R : Room} {p : Program} {e : Env} {below : List Frame} {s : State} {sargs : Array Value} {y : MethodName} {len W9 : Nat}
theorem vx_back {ws : List Cond} {rm : Room} {Pc : Array Value → State → Prop} {Qc : Array Value → State → Outcome → State → Prop} {XC : String → State → State → Prop} {mc ms : Nat} {free : Addr → Prop} {bytes : ByteArray} {maxL : Nat} {ret : Option FieldType}
    (hM : vx_Met l y ws rm Pc Qc XC mc ms free) (hblind : FrameBlind Pc) (hrc : rm.cells = mc) (hrs : rm.slots = ms)
    (hframes : rm.frames + 1 ≤ R.frames) (hlocals : W9 + (maxL + 11) + rm.locals ≤ R.locals)
    (hws : ∀ w ∈ ws, ∀ a' U, s.WarmedH U.vm → w.before a' U = true) (hcode : Cond.code y bytes maxL ret ∈ ws) (hinit : ∀ a' U, s.WarmedH U.vm → (Cond.initialized y.cls).before a' U = true) :
    vx_Back l R p e below s sargs y len W9 (PreOf R mc ms Pc) (PostOf Qc mc ms free) (vx_Post XC mc ms free) := by
  intro m meth c A g ig mk a X hg hsize hdg hW hn hp
  have h1 : (headSpec ws rm).pre.before a A.U = true := atoms_intro fun w hw => hws w hw _ _ X.warmed
  have h2 : (Cond.code y bytes maxL ret).before a A.U = true := hws _ hcode _ _ X.warmed
  have h3 : (Cond.initialized y.cls).before a A.U = true := hinit _ _ X.warmed
  have h4 : A.cells + (headSpec ws rm).room.cells ≤ R.cells := by rw [show (headSpec ws rm).room.cells = mc from hrc]; exact hp.1
  have h5 : A.slots + (headSpec ws rm).room.slots ≤ R.slots := by rw [show (headSpec ws rm).room.slots = ms from hrs]; exact hp.2.1
  have hPc : Pc a (A.U.calling g mk a) := hblind _ _ _ _ hp.2.2
  obtain ⟨U, Ls, c0, s0⟩ := A
  dsimp only [Pt.U, Pt.locs, Pt.cells, Pt.slots] at h1 h2 h3 h4 h5 X hn hPc ⊢
  obtain ⟨methY, cY, hmY, hcY, -, hlY, -, -, -, -⟩ := Cond.code_spec hn h2
  obtain ⟨kY, hkY, -⟩ := className_of_methodNamed hn
  have hinitY : kY.init = .initialized := Cond.initialized_spec (findClass_of_methodNamed hn) hkY h3
  have h : At U g.method c below := by rw [hg]; exact X.here
  have hlocals9 : W9 + (maxL + 11) + (headSpec ws rm).room.locals ≤ R.locals := hlocals
  have happ : (headSpec ws rm).appliesLoose y e.platform (U.calling g mk a) = true :=
    Spec.appliesLoose_calling (g := g) h hdg hn hkY hinitY
      (X.room_calling (g := g) (R' := (headSpec ws rm).room) hsize hmY hcY hframes (by rw [hlY]; omega) h4 h5) h1
  obtain ⟨mid, hmid⟩ := h.above
  have hfr : (U.setTop g).frames = (.java g :: mid) ++ below := by rw [State.frames_setTop' g h.top, hmid]; rfl
  obtain ⟨o, s₂, hsteps, -, hend, hq⟩ := Steps.callFree hM p X.admits X.cas X.clock (acts := []) hfr happ hPc trivial
  have hq' : vx_Q Qc XC mc ms free a (U.calling g mk a) o s₂ := hq
  rw [State.frames_setTop' g h.top] at hend
  obtain ⟨g₀, hg0⟩ := Option.isSome_iff_exists.mp h.top
  obtain ⟨r, hr⟩ := State.topJava?_eq_some.mp hg0
  have hr' : (({ U with heap := s₂.heap, slotsUsed := s₂.slotsUsed } : State).setVm s₂.vm).frames = .java g₀ :: r := hr
  rcases hq' with ⟨hqc, L, hfe, hL⟩ | ⟨q, rfl, E, ce, L, hx, hce, hcv, hcl, hW₂, hsm, hL⟩
  · obtain ⟨⟨v, rfl⟩, hW₂, e2, q2, q3, q4, q5, q6⟩ := id hfe
    have e3 : s₂ = ({ (U.calling g mk a).setFrames s₂.frames with heap := s₂.heap, slotsUsed := s₂.slotsUsed } : State).setVm s₂.vm := by
      have : s₂ = ({ s₂ with vm := (U.calling g mk a).vm } : State).setVm s₂.vm := rfl
      rw [e2] at this
      exact this
    obtain ⟨c₂, i₂, len₂, hc₂, hd₂, hf₂⟩ := hend
    have hW' : U.WarmedH s₂.vm := hW₂
    have hcc : c₂ = c := by
      have h1 : s₂.code? g.method = U.code? g.method := by
        rw [State.code?_eq, State.code?_eq, hW'.alike.method?]
      exact Option.some.inj (hc₂.symm.trans (h1.trans h.code))
    subst hcc
    have hlen : len₂ = len := by rw [hdg] at hd₂; cases hd₂; rfl
    subst hlen
    have hs₂ : s₂ = (({ U with heap := s₂.heap, slotsUsed := s₂.slotsUsed } : State).setVm s₂.vm).setTop { g with pc := g.pc + len₂, stack := v.toList ++ g.stack } := by
      refine e3.trans ?_
      rw [hf₂, State.calling_eq h.top, State.setFrames_setFrames, State.setTop_of_frames _ hr', hr]
      rfl
    have hsame : U.sameButNew ({ U with heap := s₂.heap, slotsUsed := s₂.slotsUsed } : State) L mc ms := by
      refine ⟨?_, q2, q3, q4, q5, q6⟩
      obtain ⟨t, ht, -⟩ := State.frames_cons hr
      show ({ U with heap := s₂.heap, slotsUsed := s₂.slotsUsed } : State) = { U.setFrames U.frames with heap := s₂.heap, slotsUsed := s₂.slotsUsed }
      rw [State.setFrames_self ht]
    subst hg
    refine Or.inl ⟨v, ⟨(({ U with heap := s₂.heap, slotsUsed := s₂.slotsUsed } : State).setVm s₂.vm), Ls ++ L, c0 + mc, s0 + ms⟩,
      ⟨X.admits, X.cas, X.clock, X.frames, X.room, X.hears, X.method, X.code, (X.here.setHeapUsed s₂.heap s₂.slotsUsed).setVm hW'.alike, X.tail, State.WarmedH.trans X.warmed hW', X.limits, X.bytes, X.same.trans (hsame.setVm s.vm)⟩,
      ⟨g, mk, s₂, L, rfl, rfl, hqc, rfl, hL, rfl, rfl⟩, ?_⟩
    show Steps p.tables e below _ ((({ U with heap := s₂.heap, slotsUsed := s₂.slotsUsed } : State).setVm s₂.vm).setTop { g with pc := g.pc + len₂, stack := v.toList ++ g.stack })
    rw [← hs₂]
    exact hsteps
  · obtain ⟨e2, q2, q3, q4, q5, q6⟩ := id hsm
    have e3 : s₂ = ({ (U.calling g mk a).setFrames s₂.frames with heap := s₂.heap, slotsUsed := s₂.slotsUsed } : State).setVm s₂.vm := by
      have : s₂ = ({ s₂ with vm := (U.calling g mk a).vm } : State).setVm s₂.vm := rfl
      rw [e2] at this
      exact this
    have hf₂ : s₂.frames = .throwing q :: .java g :: U.frames.tail := hend
    have hW' : U.WarmedH s₂.vm := hW₂
    have hs₂ : s₂ = ((({ U with heap := s₂.heap, slotsUsed := s₂.slotsUsed } : State).setVm s₂.vm).setTop g).pushFrame (.throwing q) := by
      refine e3.trans ?_
      rw [hf₂, State.calling_eq h.top, State.setFrames_setFrames, State.pushFrame, State.frames_setTop _ hr', State.setTop_of_frames _ hr', State.setFrames_setFrames, hr]
      rfl
    have hsame : U.sameButNew ({ U with heap := s₂.heap, slotsUsed := s₂.slotsUsed } : State) L mc ms := by
      refine ⟨?_, q2, q3, q4, q5, q6⟩
      obtain ⟨t, ht, -⟩ := State.frames_cons hr
      show ({ U with heap := s₂.heap, slotsUsed := s₂.slotsUsed } : State) = { U.setFrames U.frames with heap := s₂.heap, slotsUsed := s₂.slotsUsed }
      rw [State.setFrames_self ht]
    subst hg
    refine Or.inr ⟨q, ⟨(({ U with heap := s₂.heap, slotsUsed := s₂.slotsUsed } : State).setVm s₂.vm), Ls ++ L, c0 + mc, s0 + ms⟩,
      ⟨X.admits, X.cas, X.clock, X.frames, X.room, X.hears, X.method, X.code, (X.here.setHeapUsed s₂.heap s₂.slotsUsed).setVm hW'.alike, X.tail, State.WarmedH.trans X.warmed hW', X.limits, X.bytes, X.same.trans (hsame.setVm s.vm)⟩,
      ⟨g, mk, s₂, L, E, ce, rfl, rfl, hx, hce, hcv, hcl, rfl, hL, rfl, rfl⟩, ?_⟩
    show Steps p.tables e below _ (((({ U with heap := s₂.heap, slotsUsed := s₂.slotsUsed } : State).setVm s₂.vm).setTop g).pushFrame (.throwing q))
    rw [← hs₂]
    exact hsteps
end Payer
section Calls
variable {p : Program} {l : Launch} {e : Env} {R : Room} {s : State} {m : MethodId} {args : Array Value} {below : List Frame} {meth : Method} {c : Code} {T : State} {locs : List Loc} {cells slots : Nat}
theorem vx_callV (X : Stand p l e R s m args below meth c T locs cells slots) (hexec : p.tables.exec = Jvm.exec) {own C : String} {index : Nat} {y : MethodName} {bytes : ByteArray} {maxL : Nat} {ret : Option FieldType}
    (hown : s.vm.findClass own = some m.cls) (hlink : (Cond.methodLink own index y).before args s = true) (hinst : (Cond.instanceMethod y).before args s = true) (hsel : (Cond.selects C y y).before args s = true)
    (hcode : (Cond.code y bytes maxL ret).before args s = true) (hy : y.cls ≠ "java/lang/invoke/MethodHandle" ∧ y.cls ≠ "java/lang/invoke/VarHandle")
    {W9 : Nat} {Pre : Pt → Array Value → Prop} {Post : Pt → Array Value → Option Value → Pt → Prop} {PostX : Pt → Array Value → Addr → Pt → Prop} (hK : vx_Back l R p e below s args y 3 W9 Pre Post PostX)
    {b : Addr} {cellB : Cell} (hcell : T.heap[b]? = some cellB) (hobj : cellB.vm.isStatics = false) (hcls : s.vm.findClass C = some cellB.cls)
    {g : JFrame} (hg : g.method = m) (hsize : g.locals.size = c.maxLocals) {argsL rest : List Value} (hlen : ∀ sig, parseMethodDescriptor y.desc = some sig → argsL.length = sig.parameters.length)
    (hstack : g.stack = argsL.reverse ++ .ref b :: rest) (hW : 2 * g.monitorRoom + (rest.map fun v => v.category).sum ≤ W9) (hdg : decode c.code g.pc = .ok (.invokevirtual index, 3))
    (hpre : ∀ vm₁, s.WarmedH vm₁ → Pre ⟨T.setVm vm₁, locs, cells, slots⟩ (Value.ref b :: argsL).toArray) :
    (∃ (v : Option Value) (vm₁ : Vm) (B : Pt), s.WarmedH vm₁ ∧ Stand p l e R s m args below meth c B.U B.locs B.cells B.slots ∧ Post ⟨T.setVm vm₁, locs, cells, slots⟩ (Value.ref b :: argsL).toArray v B ∧
      ∀ target, Steps p.tables e below (B.U.setTop { g with pc := g.pc + 3, stack := v.toList ++ rest }) target → Steps p.tables e below (T.setTop g) target) ∨
    (∃ (q : Addr) (vm₁ : Vm) (B : Pt), s.WarmedH vm₁ ∧ Stand p l e R s m args below meth c B.U B.locs B.cells B.slots ∧ PostX ⟨T.setVm vm₁, locs, cells, slots⟩ (Value.ref b :: argsL).toArray q B ∧
      Steps p.tables e below (T.setTop g) ((B.U.setTop { g with stack := rest }).pushFrame (.throwing q))) := by
  obtain ⟨mk, methM, hnamed, hmethM, hstM, habM⟩ := Cond.instanceMethod_spec hinst
  obtain ⟨methM', cM, hmethM', -, -, -, -, -, -, hsigM⟩ := Cond.code_spec hnamed hcode
  cases hmethM.symm.trans hmethM'
  obtain ⟨c2, r2, m2, q1, q2, q3, q4, kP, hkP, hkPi⟩ := Cond.selects_spec hsel
  cases hcls.symm.trans q1
  cases (State.methodFound?_of_named hnamed hy).symm.trans q2
  cases hnamed.symm.trans q3
  have hselP : selectMethod e.platform s.vm cellB.cls mk = .method mk := by rw [Launch.admits_selectMethod X.admits]; exact q4
  obtain ⟨vm₁, X₁, hstep₁⟩ := X.invokevirtual hexec hown hlink hnamed hmethM hstM hkP hkPi hy (a := b) (cell := cellB) hcell
    (fun z h => by rw [h] at hobj; cases hobj) hselP hmethM habM hkP hkPi (g := g) hg (argsL := argsL) (rest := rest) (hlen _ hsigM) hstack hdg
  rcases hK m meth c ⟨T.setVm vm₁, locs, cells, slots⟩ { g with stack := rest } (.invokevirtual index) mk (Value.ref b :: argsL).toArray X₁ hg hsize hdg hW (X₁.named hnamed) (hpre vm₁ X₁.warmed) with ⟨v, B, X', hpost, hsteps⟩ | ⟨q, B, X', hpost, hsteps⟩
  · exact Or.inl ⟨v, vm₁, B, X₁.warmed, X', hpost, fun target h => hstep₁ _ fun acts => by rw [doInvoke_state]; exact hsteps.trans h⟩
  · exact Or.inr ⟨q, vm₁, B, X₁.warmed, X', hpost, hstep₁ _ fun acts => by rw [doInvoke_state]; exact hsteps⟩
theorem vx_callS (X : Stand p l e R s m args below meth c T locs cells slots) (hexec : p.tables.exec = Jvm.exec) {own : String} {index : Nat} {y : MethodName} {bytes : ByteArray} {maxL : Nat} {ret : Option FieldType}
    (hown : s.vm.findClass own = some m.cls) (hlink : (Cond.methodLink own index y).before args s = true) (hstat : (Cond.static y).before args s = true) (hinit : (Cond.initialized y.cls).before args s = true)
    (hcode : (Cond.code y bytes maxL ret).before args s = true) (hy : y.cls ≠ "java/lang/invoke/MethodHandle" ∧ y.cls ≠ "java/lang/invoke/VarHandle")
    {W9 : Nat} {Pre : Pt → Array Value → Prop} {Post : Pt → Array Value → Option Value → Pt → Prop} {PostX : Pt → Array Value → Addr → Pt → Prop} (hK : vx_Back l R p e below s args y 3 W9 Pre Post PostX)
    {g : JFrame} (hg : g.method = m) (hsize : g.locals.size = c.maxLocals) {argsL rest : List Value} (hlen : ∀ sig, parseMethodDescriptor y.desc = some sig → argsL.length = sig.parameters.length)
    (hstack : g.stack = argsL.reverse ++ rest) (hW : 2 * g.monitorRoom + (rest.map fun v => v.category).sum ≤ W9) (hdg : decode c.code g.pc = .ok (.invokestatic index, 3))
    (hpre : ∀ vm₁, s.WarmedH vm₁ → Pre ⟨T.setVm vm₁, locs, cells, slots⟩ argsL.toArray) :
    (∃ (v : Option Value) (vm₁ : Vm) (B : Pt), s.WarmedH vm₁ ∧ Stand p l e R s m args below meth c B.U B.locs B.cells B.slots ∧ Post ⟨T.setVm vm₁, locs, cells, slots⟩ argsL.toArray v B ∧
      ∀ target, Steps p.tables e below (B.U.setTop { g with pc := g.pc + 3, stack := v.toList ++ rest }) target → Steps p.tables e below (T.setTop g) target) ∨
    (∃ (q : Addr) (vm₁ : Vm) (B : Pt), s.WarmedH vm₁ ∧ Stand p l e R s m args below meth c B.U B.locs B.cells B.slots ∧ PostX ⟨T.setVm vm₁, locs, cells, slots⟩ argsL.toArray q B ∧
      Steps p.tables e below (T.setTop g) ((B.U.setTop { g with stack := rest }).pushFrame (.throwing q))) := by
  obtain ⟨mk, hnamed⟩ := Cond.code_named hcode
  obtain ⟨methM, cM, hmethM, -, -, -, -, -, -, hsigM⟩ := Cond.code_spec hnamed hcode
  have hstatic : methM.isStatic = true := Cond.static_spec hnamed hmethM hstat
  obtain ⟨kP, hkP, -⟩ := className_of_methodNamed hnamed
  have hinitP : kP.init = .initialized := Cond.initialized_spec (findClass_of_methodNamed hnamed) hkP hinit
  obtain ⟨vm₁, X₁, hstep₁⟩ := X.invokestatic hexec hown hlink hnamed hmethM hstatic hkP hinitP hy (g := g) hg (argsL := argsL) (rest := rest) (hlen _ hsigM) hstack hdg
  rcases hK m meth c ⟨T.setVm vm₁, locs, cells, slots⟩ { g with stack := rest } (.invokestatic index) mk argsL.toArray X₁ hg hsize hdg hW (X₁.named hnamed) (hpre vm₁ X₁.warmed) with ⟨v, B, X', hpost, hsteps⟩ | ⟨q, B, X', hpost, hsteps⟩
  · exact Or.inl ⟨v, vm₁, B, X₁.warmed, X', hpost, fun target h => hstep₁ _ fun acts => by rw [doInvoke_state]; exact hsteps.trans h⟩
  · exact Or.inr ⟨q, vm₁, B, X₁.warmed, X', hpost, hstep₁ _ fun acts => by rw [doInvoke_state]; exact hsteps⟩
end Calls
theorem vx_cls {s : State} {T : State} {vm₁ : Vm} {E : String} {k : ClassId} (hW : s.WarmedH vm₁) (h : (T.setVm vm₁).vm.findClass E = some k) : s.vm.findClass E = some k := by
  have h1 : vm₁.findClass E = some k := h
  rw [hW.alike.findClass] at h1
  exact h1
/-- the method's frame g, with q thrown over it -/
def vx_W (p : Program) (l : Launch) (e : Env) (R : Room) (s : State) (m : MethodId) (args : Array Value) (below : List Frame) (meth : Method) (c : Code) (H : Heap) (locs : List Loc) (cells slots : Nat) (Q : State → Prop) (g : JFrame) (q : Addr) : Prop :=
  ∀ T : State, T.heap = H → Stand p l e R s m args below meth c T locs cells slots → ∃ t, Steps p.tables e below ((T.setTop g).pushFrame (.throwing q)) t ∧ Q t
def vx_Run (p : Program) (l : Launch) (e : Env) (R : Room) (s : State) (m : MethodId) (args : Array Value) (below : List Frame) (meth : Method) (c : Code) (H : Heap) (locs : List Loc) (cells slots mc ms : Nat) (g : JFrame) (rest : List Value) (Qa : State → Outcome → State → Prop) (XC : String → State → State → Prop) (free : Addr → Prop) : Prop :=
  ∀ T : State, T.heap = H → Stand p l e R s m args below meth c T locs cells slots →
    (∃ (v : Option Value) (st₀ t T' : State) (L : List Loc), st₀.heap = H ∧ Stand p l e R s m args below meth c T' (locs ++ L) (cells + mc) (slots + ms) ∧ (∀ q ∈ L, free q.base) ∧ T'.heap = t.heap ∧ T'.vm = t.vm ∧ Qa st₀ (.returned v) t ∧
      Goes p e below T g T' { g with pc := g.pc + 3, stack := v.toList ++ rest }) ∨
    (∃ (q : Addr) (st₀ t T' : State) (L : List Loc) (E : String) (ce : Cell), st₀.heap = H ∧ Stand p l e R s m args below meth c T' (locs ++ L) (cells + mc) (slots + ms) ∧ (∀ z ∈ L, free z.base) ∧ T'.heap = t.heap ∧ T'.vm = t.vm ∧ XC E st₀ t ∧ t.heap[q]? = some ce ∧ ce.vm = .none ∧ s.vm.findClass E = some ce.cls ∧
      Steps p.tables e below (T.setTop g) ((T'.setTop { g with stack := rest }).pushFrame (.throwing q)))
def vx_X {S : Type} (px : S → Prop) (B : String → S → State → Prop) (A : Nat → Prop) : String → State → State → Prop := fun E st t => ∃ u : S, px u ∧ B E u t ∧ va_F A st t
section Runs
variable {p : Program} {l : Launch} {e : Env} {R : Room} {s : State} {m : MethodId} {args : Array Value} {below : List Frame} {meth : Method} {c : Code} {H : Heap} {locs : List Loc} {cells slots : Nat}
variable {y : MethodName} {bytes cc : ByteArray} {maxL nL mc ms n index : Nat} {ret : Option FieldType} {ws : List Cond} {rm : Room} {Pc : Array Value → State → Prop} {Qc : Array Value → State → Outcome → State → Prop} {XC : String → State → State → Prop} {free : Addr → Prop} {Ts : List Cond} {own C : String} {b : Addr} {As rest : List Value} {g : JFrame}
theorem vx_callBack (cb : CallB R s args own index y bytes maxL ret ws rm mc ms n) (hM : vx_Met l y ws rm Pc Qc XC mc ms free) (hbl : FrameBlind Pc) : vx_Back l R p e below s args y 3 8 (PreOf R mc ms Pc) (PostOf Qc mc ms free) (vx_Post XC mc ms free) := by
  obtain ⟨hrc, hrs, hfr, hlo, hws, hcw, -, hini, -⟩ := cb
  exact vx_back (bytes := bytes) (maxL := maxL) (ret := ret) hM hbl hrc hrs hfr hlo hws hcw (fun a' U hW => word_at hW (Or.inl (by first | rfl | simp [Cond.onTables, Cond.keeps, Cond.steady])) hini)
theorem vx_runV (S : CallFix p m c cc nL s args Ts own) (hM : vx_Met l y ws rm Pc Qc XC mc ms free) (cw : CallW R s args own C index y bytes maxL ret ws rm mc ms n) (hp : PreV s H C b Pc As)
    (hg : g.method = m) (hn : As.length = n) (hsize : g.locals.size = nL) (hstack : g.stack = As.reverse ++ .ref b :: rest) (hW : 2 * g.monitorRoom + (rest.map fun v => v.category).sum ≤ 8) (hdg : decode cc g.pc = .ok (.invokevirtual index, 3)) (hf : cells + mc ≤ R.cells ∧ slots + ms ≤ R.slots) :
    vx_Run p l e R s m args below meth c H locs cells slots mc ms g rest (Qc (Value.ref b :: As).toArray) XC free := by
  have hK : vx_Back l R p e below s args y 3 8 (PreOf R mc ms Pc) (PostOf Qc mc ms free) (vx_Post XC mc ms free) := vx_callBack cw.1 hM hp.1
  obtain ⟨⟨-, -, -, -, -, -, hcode, -, hy, hlen, hl⟩, hin, hse⟩ := cw
  obtain ⟨hx, hb, hml, ho, -⟩ := S
  obtain ⟨-, ⟨cellB, hcB, hoB, hclB⟩, hPc⟩ := hp
  intro T hT X
  rcases vx_callV X hx (C := C) (bytes := bytes) (maxL := maxL) (ret := ret) ho hl hin hse hcode hy hK (by rw [hT]; exact hcB) hoB hclB hg (hsize.trans hml.symm) (argsL := As) (rest := rest) (fun sig h => hn.trans (hlen sig h)) hstack hW (by rw [hb]; exact hdg)
    (fun vm₁ hW₁ => ⟨hf.1, hf.2, hPc (T.setVm vm₁) hT hW₁⟩) with ⟨v, vm₁, ⟨U', l2, c2, s2⟩, hW₁, X', ⟨g', mk, t, L, e1, e2, hq, h1, hL, h2, h3⟩, st⟩ | ⟨q, vm₁, ⟨U', l2, c2, s2⟩, hW₁, X', ⟨g', mk, t, L, E, ce, e1, e2, hq, hce, hcv, hcl, h1, hL, h2, h3⟩, st⟩
  · dsimp only [Pt.U, Pt.locs, Pt.cells, Pt.slots] at X' e1 e2 h1 h2 h3 st
    subst h1; subst h2; subst h3
    exact Or.inl ⟨v, (T.setVm vm₁).calling g' mk (Value.ref b :: As).toArray, t, U', L, hT, X', hL, e1, e2, hq, st⟩
  · dsimp only [Pt.U, Pt.locs, Pt.cells, Pt.slots] at X' e1 e2 h1 h2 h3 st hcl
    subst h1; subst h2; subst h3
    exact Or.inr ⟨q, (T.setVm vm₁).calling g' mk (Value.ref b :: As).toArray, t, U', L, E, ce, hT, X', hL, e1, e2, hq, hce, hcv, vx_cls hW₁ hcl, st⟩
theorem vx_runS (S : CallFix p m c cc nL s args Ts own) (hM : vx_Met l y ws rm Pc Qc XC mc ms free) (cw : CallB R s args own index y bytes maxL ret ws rm mc ms n ∧ (Cond.static y).before args s = true) (hp : PreS s H Pc As)
    (hg : g.method = m) (hn : As.length = n) (hsize : g.locals.size = nL) (hstack : g.stack = As.reverse ++ rest) (hW : 2 * g.monitorRoom + (rest.map fun v => v.category).sum ≤ 8) (hdg : decode cc g.pc = .ok (.invokestatic index, 3)) (hf : cells + mc ≤ R.cells ∧ slots + ms ≤ R.slots) :
    vx_Run p l e R s m args below meth c H locs cells slots mc ms g rest (Qc As.toArray) XC free := by
  have hK : vx_Back l R p e below s args y 3 8 (PreOf R mc ms Pc) (PostOf Qc mc ms free) (vx_Post XC mc ms free) := vx_callBack cw.1 hM hp.1
  obtain ⟨⟨-, -, -, -, -, -, hcode, hini, hy, hlen, hl⟩, hstt⟩ := cw
  obtain ⟨hx, hb, hml, ho, -⟩ := S
  intro T hT X
  rcases vx_callS X hx (bytes := bytes) (maxL := maxL) (ret := ret) ho hl hstt hini hcode hy hK hg (hsize.trans hml.symm) (argsL := As) (rest := rest) (fun sig h => hn.trans (hlen sig h)) hstack hW (by rw [hb]; exact hdg)
    (fun vm₁ hW₁ => ⟨hf.1, hf.2, hp.2 (T.setVm vm₁) hT hW₁⟩) with ⟨v, vm₁, ⟨U', l2, c2, s2⟩, hW₁, X', ⟨g', mk, t, L, e1, e2, hq, h1, hL, h2, h3⟩, st⟩ | ⟨q, vm₁, ⟨U', l2, c2, s2⟩, hW₁, X', ⟨g', mk, t, L, E, ce, e1, e2, hq, hce, hcv, hcl, h1, hL, h2, h3⟩, st⟩
  · dsimp only [Pt.U, Pt.locs, Pt.cells, Pt.slots] at X' e1 e2 h1 h2 h3 st
    subst h1; subst h2; subst h3
    exact Or.inl ⟨v, (T.setVm vm₁).calling g' mk As.toArray, t, U', L, hT, X', hL, e1, e2, hq, st⟩
  · dsimp only [Pt.U, Pt.locs, Pt.cells, Pt.slots] at X' e1 e2 h1 h2 h3 st hcl
    subst h1; subst h2; subst h3
    exact Or.inr ⟨q, (T.setVm vm₁).calling g' mk As.toArray, t, U', L, E, ce, hT, X', hL, e1, e2, hq, hce, hcv, vx_cls hW₁ hcl, st⟩
end Runs
section Rows
variable {p : Program} {l : Launch} {e : Env} {R : Room} {s : State} {m : MethodId} {args : Array Value} {below : List Frame} {meth : Method} {c : Code} {H : Heap} {locs : List Loc} {cells slots : Nat} {Q : State → Prop}
variable {mc ms : Nat} {free : Addr → Prop} {A0 A1 : Nat → Prop} {H0 : Heap} {a : Array Value} {pc : Nat} {ls : Array Slot} {st0 rest : List Value}
theorem vx_keep {st₀ t T' : State} {L : List Loc} (h0 : st₀.heap = H) (e1 : T'.heap = t.heap) (hS : va_S A0 H0 H locs) (hA : ∀ q, q < H.size → A1 q → A0 q) (hf : ∀ q, free q → A0 q) (hL : ∀ q ∈ L, free q.base) (hF : va_F A1 st₀ t) :
    H.size ≤ T'.heap.size ∧ (∀ q : Nat, q < H.size → ¬ A1 q → T'.heap[q]? = H[q]?) ∧ va_S A0 H0 T'.heap (locs ++ L) := by
  obtain ⟨hz, hk⟩ := hF
  rw [h0] at hz hk
  exact ⟨by rw [e1]; exact hz, fun q h1 h2 => by rw [e1]; exact hk q h1 h2,
    ⟨Nat.le_trans hS.1 (by rw [e1]; exact hz), fun q h1 h2 => by rw [e1, hk q (Nat.lt_of_lt_of_le h1 hS.1) (fun z => h2 (hA q (Nat.lt_of_lt_of_le h1 hS.1) z))]; exact hS.2.1 q h1 h2, fun q hq => by
      rcases List.mem_append.mp hq with h | h
      · exact hS.2.2 q h
      · exact hf _ (hL q h)⟩⟩
theorem vx_calli {S SX : Type} {post : Int32 → S → Prop} {px : SX → Prop} {B : S → State → Prop} {BX : String → SX → State → Prop} {AX : Nat → Prop} (hr : vx_Run p l e R s m args below meth c H locs cells slots mc ms (F0 m pc ls st0) rest (va_Qi post B A1 a) (vx_X px BX AX) free) (hS : va_S A0 H0 H locs) (hA : ∀ q, q < H.size → A1 q → A0 q) (hf : ∀ q, free q → A0 q) (hAX : ∀ q, q < H.size → AX q → A0 q)
    (kx : ∀ (E : String) (ce : Cell) (q9 : Addr) (u : SX) (t : State) (H1 : Heap) (locs1 : List Loc), t.heap = H1 → s.vm.Alike t.vm → px u → BX E u t → H.size ≤ H1.size → (∀ q : Nat, q < H.size → ¬ AX q → H1[q]? = H[q]?) → va_S A0 H0 H1 locs1 → H1[q9]? = some ce → ce.vm = .none → s.vm.findClass E = some ce.cls → vx_W p l e R s m args below meth c H1 locs1 (cells + mc) (slots + ms) Q (F0 m pc ls rest) q9)
    (kk : ∀ (r : Int32) (u : S) (t : State) (H1 : Heap) (locs1 : List Loc), t.heap = H1 → s.vm.Alike t.vm → post r u → B u t → H.size ≤ H1.size → (∀ q : Nat, q < H.size → ¬ A1 q → H1[q]? = H[q]?) → va_S A0 H0 H1 locs1 → W p l e R s m args below meth c H1 locs1 (cells + mc) (slots + ms) Q (F0 m (pc + 3) ls (.int r :: rest))) : W p l e R s m args below meth c H locs cells slots Q (F0 m pc ls st0) := by
  intro T hT X
  rcases hr T hT X with ⟨v, st₀, t, T', L, h0, X', hL, e1, e2, ⟨⟨r, u, hv, hp, hb⟩, hF⟩, st⟩ | ⟨q, st₀, t, T', L, E, ce, h0, X', hL, e1, e2, ⟨u, hp, hb, hF⟩, hce, hcv, hcl, st⟩
  · cases hv
    obtain ⟨k1, k2, k3⟩ := vx_keep h0 e1 hS hA hf hL hF
    obtain ⟨t2, a1, b1⟩ := kk r u t T'.heap (locs ++ L) e1.symm (by rw [← e2]; exact X'.warmed.alike) hp hb k1 k2 k3 T' rfl X'
    exact ⟨t2, st t2 a1, b1⟩
  · obtain ⟨k1, k2, k3⟩ := vx_keep h0 e1 hS hAX hf hL hF
    obtain ⟨t2, a1, b1⟩ := kx E ce q u t T'.heap (locs ++ L) e1.symm (by rw [← e2]; exact X'.warmed.alike) hp hb k1 k2 k3 (by rw [e1]; exact hce) hcv hcl T' rfl X'
    exact ⟨t2, st.trans a1, b1⟩
theorem vx_calll {S SX : Type} {post : Int64 → S → Prop} {px : SX → Prop} {B : S → State → Prop} {BX : String → SX → State → Prop} {AX : Nat → Prop} (hr : vx_Run p l e R s m args below meth c H locs cells slots mc ms (F0 m pc ls st0) rest (va_Ql post B A1 a) (vx_X px BX AX) free) (hS : va_S A0 H0 H locs) (hA : ∀ q, q < H.size → A1 q → A0 q) (hf : ∀ q, free q → A0 q) (hAX : ∀ q, q < H.size → AX q → A0 q)
    (kx : ∀ (E : String) (ce : Cell) (q9 : Addr) (u : SX) (t : State) (H1 : Heap) (locs1 : List Loc), t.heap = H1 → s.vm.Alike t.vm → px u → BX E u t → H.size ≤ H1.size → (∀ q : Nat, q < H.size → ¬ AX q → H1[q]? = H[q]?) → va_S A0 H0 H1 locs1 → H1[q9]? = some ce → ce.vm = .none → s.vm.findClass E = some ce.cls → vx_W p l e R s m args below meth c H1 locs1 (cells + mc) (slots + ms) Q (F0 m pc ls rest) q9)
    (kk : ∀ (r : Int64) (u : S) (t : State) (H1 : Heap) (locs1 : List Loc), t.heap = H1 → s.vm.Alike t.vm → post r u → B u t → H.size ≤ H1.size → (∀ q : Nat, q < H.size → ¬ A1 q → H1[q]? = H[q]?) → va_S A0 H0 H1 locs1 → W p l e R s m args below meth c H1 locs1 (cells + mc) (slots + ms) Q (F0 m (pc + 3) ls (.long r :: rest))) : W p l e R s m args below meth c H locs cells slots Q (F0 m pc ls st0) := by
  intro T hT X
  rcases hr T hT X with ⟨v, st₀, t, T', L, h0, X', hL, e1, e2, ⟨⟨r, u, hv, hp, hb⟩, hF⟩, st⟩ | ⟨q, st₀, t, T', L, E, ce, h0, X', hL, e1, e2, ⟨u, hp, hb, hF⟩, hce, hcv, hcl, st⟩
  · cases hv
    obtain ⟨k1, k2, k3⟩ := vx_keep h0 e1 hS hA hf hL hF
    obtain ⟨t2, a1, b1⟩ := kk r u t T'.heap (locs ++ L) e1.symm (by rw [← e2]; exact X'.warmed.alike) hp hb k1 k2 k3 T' rfl X'
    exact ⟨t2, st t2 a1, b1⟩
  · obtain ⟨k1, k2, k3⟩ := vx_keep h0 e1 hS hAX hf hL hF
    obtain ⟨t2, a1, b1⟩ := kx E ce q u t T'.heap (locs ++ L) e1.symm (by rw [← e2]; exact X'.warmed.alike) hp hb k1 k2 k3 (by rw [e1]; exact hce) hcv hcl T' rfl X'
    exact ⟨t2, st.trans a1, b1⟩
theorem vx_callf {S SX : Type} {post : UInt32 → S → Prop} {px : SX → Prop} {B : S → State → Prop} {BX : String → SX → State → Prop} {AX : Nat → Prop} (hr : vx_Run p l e R s m args below meth c H locs cells slots mc ms (F0 m pc ls st0) rest (va_Qf post B A1 a) (vx_X px BX AX) free) (hS : va_S A0 H0 H locs) (hA : ∀ q, q < H.size → A1 q → A0 q) (hf : ∀ q, free q → A0 q) (hAX : ∀ q, q < H.size → AX q → A0 q)
    (kx : ∀ (E : String) (ce : Cell) (q9 : Addr) (u : SX) (t : State) (H1 : Heap) (locs1 : List Loc), t.heap = H1 → s.vm.Alike t.vm → px u → BX E u t → H.size ≤ H1.size → (∀ q : Nat, q < H.size → ¬ AX q → H1[q]? = H[q]?) → va_S A0 H0 H1 locs1 → H1[q9]? = some ce → ce.vm = .none → s.vm.findClass E = some ce.cls → vx_W p l e R s m args below meth c H1 locs1 (cells + mc) (slots + ms) Q (F0 m pc ls rest) q9)
    (kk : ∀ (r : UInt32) (u : S) (t : State) (H1 : Heap) (locs1 : List Loc), t.heap = H1 → s.vm.Alike t.vm → post r u → B u t → H.size ≤ H1.size → (∀ q : Nat, q < H.size → ¬ A1 q → H1[q]? = H[q]?) → va_S A0 H0 H1 locs1 → W p l e R s m args below meth c H1 locs1 (cells + mc) (slots + ms) Q (F0 m (pc + 3) ls (.float r :: rest))) : W p l e R s m args below meth c H locs cells slots Q (F0 m pc ls st0) := by
  intro T hT X
  rcases hr T hT X with ⟨v, st₀, t, T', L, h0, X', hL, e1, e2, ⟨⟨r, u, hv, hp, hb⟩, hF⟩, st⟩ | ⟨q, st₀, t, T', L, E, ce, h0, X', hL, e1, e2, ⟨u, hp, hb, hF⟩, hce, hcv, hcl, st⟩
  · cases hv
    obtain ⟨k1, k2, k3⟩ := vx_keep h0 e1 hS hA hf hL hF
    obtain ⟨t2, a1, b1⟩ := kk r u t T'.heap (locs ++ L) e1.symm (by rw [← e2]; exact X'.warmed.alike) hp hb k1 k2 k3 T' rfl X'
    exact ⟨t2, st t2 a1, b1⟩
  · obtain ⟨k1, k2, k3⟩ := vx_keep h0 e1 hS hAX hf hL hF
    obtain ⟨t2, a1, b1⟩ := kx E ce q u t T'.heap (locs ++ L) e1.symm (by rw [← e2]; exact X'.warmed.alike) hp hb k1 k2 k3 (by rw [e1]; exact hce) hcv hcl T' rfl X'
    exact ⟨t2, st.trans a1, b1⟩
theorem vx_calld {S SX : Type} {post : UInt64 → S → Prop} {px : SX → Prop} {B : S → State → Prop} {BX : String → SX → State → Prop} {AX : Nat → Prop} (hr : vx_Run p l e R s m args below meth c H locs cells slots mc ms (F0 m pc ls st0) rest (va_Qd post B A1 a) (vx_X px BX AX) free) (hS : va_S A0 H0 H locs) (hA : ∀ q, q < H.size → A1 q → A0 q) (hf : ∀ q, free q → A0 q) (hAX : ∀ q, q < H.size → AX q → A0 q)
    (kx : ∀ (E : String) (ce : Cell) (q9 : Addr) (u : SX) (t : State) (H1 : Heap) (locs1 : List Loc), t.heap = H1 → s.vm.Alike t.vm → px u → BX E u t → H.size ≤ H1.size → (∀ q : Nat, q < H.size → ¬ AX q → H1[q]? = H[q]?) → va_S A0 H0 H1 locs1 → H1[q9]? = some ce → ce.vm = .none → s.vm.findClass E = some ce.cls → vx_W p l e R s m args below meth c H1 locs1 (cells + mc) (slots + ms) Q (F0 m pc ls rest) q9)
    (kk : ∀ (r : UInt64) (u : S) (t : State) (H1 : Heap) (locs1 : List Loc), t.heap = H1 → s.vm.Alike t.vm → post r u → B u t → H.size ≤ H1.size → (∀ q : Nat, q < H.size → ¬ A1 q → H1[q]? = H[q]?) → va_S A0 H0 H1 locs1 → W p l e R s m args below meth c H1 locs1 (cells + mc) (slots + ms) Q (F0 m (pc + 3) ls (.double r :: rest))) : W p l e R s m args below meth c H locs cells slots Q (F0 m pc ls st0) := by
  intro T hT X
  rcases hr T hT X with ⟨v, st₀, t, T', L, h0, X', hL, e1, e2, ⟨⟨r, u, hv, hp, hb⟩, hF⟩, st⟩ | ⟨q, st₀, t, T', L, E, ce, h0, X', hL, e1, e2, ⟨u, hp, hb, hF⟩, hce, hcv, hcl, st⟩
  · cases hv
    obtain ⟨k1, k2, k3⟩ := vx_keep h0 e1 hS hA hf hL hF
    obtain ⟨t2, a1, b1⟩ := kk r u t T'.heap (locs ++ L) e1.symm (by rw [← e2]; exact X'.warmed.alike) hp hb k1 k2 k3 T' rfl X'
    exact ⟨t2, st t2 a1, b1⟩
  · obtain ⟨k1, k2, k3⟩ := vx_keep h0 e1 hS hAX hf hL hF
    obtain ⟨t2, a1, b1⟩ := kx E ce q u t T'.heap (locs ++ L) e1.symm (by rw [← e2]; exact X'.warmed.alike) hp hb k1 k2 k3 (by rw [e1]; exact hce) hcv hcl T' rfl X'
    exact ⟨t2, st.trans a1, b1⟩
theorem vx_callv {S SX : Type} {post : S → Prop} {px : SX → Prop} {B : S → State → Prop} {BX : String → SX → State → Prop} {AX : Nat → Prop} (hr : vx_Run p l e R s m args below meth c H locs cells slots mc ms (F0 m pc ls st0) rest (va_Qv post B A1 a) (vx_X px BX AX) free) (hS : va_S A0 H0 H locs) (hA : ∀ q, q < H.size → A1 q → A0 q) (hf : ∀ q, free q → A0 q) (hAX : ∀ q, q < H.size → AX q → A0 q)
    (kx : ∀ (E : String) (ce : Cell) (q9 : Addr) (u : SX) (t : State) (H1 : Heap) (locs1 : List Loc), t.heap = H1 → s.vm.Alike t.vm → px u → BX E u t → H.size ≤ H1.size → (∀ q : Nat, q < H.size → ¬ AX q → H1[q]? = H[q]?) → va_S A0 H0 H1 locs1 → H1[q9]? = some ce → ce.vm = .none → s.vm.findClass E = some ce.cls → vx_W p l e R s m args below meth c H1 locs1 (cells + mc) (slots + ms) Q (F0 m pc ls rest) q9)
    (kk : ∀ (u : S) (t : State) (H1 : Heap) (locs1 : List Loc), t.heap = H1 → s.vm.Alike t.vm → post u → B u t → H.size ≤ H1.size → (∀ q : Nat, q < H.size → ¬ A1 q → H1[q]? = H[q]?) → va_S A0 H0 H1 locs1 → W p l e R s m args below meth c H1 locs1 (cells + mc) (slots + ms) Q (F0 m (pc + 3) ls (rest))) : W p l e R s m args below meth c H locs cells slots Q (F0 m pc ls st0) := by
  intro T hT X
  rcases hr T hT X with ⟨v, st₀, t, T', L, h0, X', hL, e1, e2, ⟨⟨u, hv, hp, hb⟩, hF⟩, st⟩ | ⟨q, st₀, t, T', L, E, ce, h0, X', hL, e1, e2, ⟨u, hp, hb, hF⟩, hce, hcv, hcl, st⟩
  · cases hv
    obtain ⟨k1, k2, k3⟩ := vx_keep h0 e1 hS hA hf hL hF
    obtain ⟨t2, a1, b1⟩ := kk u t T'.heap (locs ++ L) e1.symm (by rw [← e2]; exact X'.warmed.alike) hp hb k1 k2 k3 T' rfl X'
    exact ⟨t2, st t2 a1, b1⟩
  · obtain ⟨k1, k2, k3⟩ := vx_keep h0 e1 hS hAX hf hL hF
    obtain ⟨t2, a1, b1⟩ := kx E ce q u t T'.heap (locs ++ L) e1.symm (by rw [← e2]; exact X'.warmed.alike) hp hb k1 k2 k3 (by rw [e1]; exact hce) hcv hcl T' rfl X'
    exact ⟨t2, st.trans a1, b1⟩
/-- caught by the row x of this method's table; the rows ahead don't take it -/
theorem vx_catch {own name : String} {E : String} {ce : Cell} {q : Addr} (hown : s.vm.findClass own = some m.cls) (pre : List ExceptionTableEntry) (x : ExceptionTableEntry) (suf : List ExceptionTableEntry) (hsplit : c.exceptionTable.toList = pre ++ x :: suf)
    (hpass : ∀ z ∈ pre, covers z pc = false ∨ (z.catchType ≠ 0 ∧ ∃ nm : String, (Cond.classLink own z.catchType nm).before args s = true ∧ va_Nc E nm s)) (hx : covers x pc = true) (h0 : x.catchType ≠ 0)
    (hlink : (Cond.classLink own x.catchType name).before args s = true) (hcast : (Cond.castable E name).before args s = true) (hcell : H[q]? = some ce) (hv : ce.vm = .none) (hcl : s.vm.findClass E = some ce.cls)
    (kk : W p l e R s m args below meth c H locs cells slots Q (F0 m x.handlerPc ls [.ref q])) : vx_W p l e R s m args below meth c H locs cells slots Q (F0 m pc ls rest) q := by
  intro T hT X
  have hpl : e.platform.magicAccessors = ({} : Platform).magicAccessors := by rw [X.admits.platform]
  obtain ⟨c3, c4, hc3, hc4, hasg⟩ := Cond.castable_spec hcast
  cases Option.some.inj (hc3.symm.trans hcl)
  obtain ⟨c5, hc5, hcl5⟩ := Cond.classLink_spec hown hlink e.platform hpl
  cases Option.some.inj (hc4.symm.trans hc5)
  obtain ⟨vm', X', st⟩ := X.thenCaughtThrough q (g := F0 m pc ls rest) rfl (Steps.refl _) (by rw [hT]; exact hcell) (by rw [hv]; rfl) (by obtain ⟨k9, h9, -⟩ := Vm.findClass_spec hcl; exact ⟨k9, h9⟩) pre x suf hsplit
    (fun z hz => by
      rcases hpass z hz with h | ⟨hz0, nm, hl1, hn1⟩
      · exact Or.inl h
      · obtain ⟨c6, hc6, hcl6⟩ := Cond.classLink_spec hown hl1 e.platform hpl
        obtain ⟨a8, b8, h1, h2, h3⟩ := hn1
        cases Option.some.inj (h1.symm.trans hcl)
        cases Option.some.inj (h2.symm.trans hc6)
        exact Or.inr ⟨hz0, _, hcl6, h3⟩) hx (Or.inr ⟨h0, c4, hcl5, hasg⟩)
  obtain ⟨t, a1, b1⟩ := kk (T.setVm vm') hT X'
  exact ⟨t, st.trans a1, b1⟩
end Rows
section Ends
variable {p : Program} {l : Launch} {e : Env} {R : Room} {s : State} {m : MethodId} {args : Array Value} {below : List Frame} {meth : Method} {c : Code} {H : Heap} {locs : List Loc} {cells slots : Nat} {Q : State → Prop}
variable {mc ms : Nat} {free : Addr → Prop} {A0 A1 : Nat → Prop} {H0 : Heap} {a : Array Value} {ls : Array Slot} {st0 rest : List Value}
variable {Qc : Array Value → State → Outcome → State → Prop} {XC : String → State → State → Prop}
/-- what a body that may throw owes at its end -/
def vx_MQ (below : List Frame) (Qc : Array Value → State → Outcome → State → Prop) (XC : String → State → State → Prop) (a : Array Value) (s : State) (mc ms : Nat) (free : Addr → Prop) : State → Prop := fun t =>
  ∃ o, t.status = .running ∧ Ended t below o ∧ vx_Q Qc XC mc ms free a s o t
theorem vx_ret {g : JFrame} {mc ms : Nat} (k : W p l e R s m args below meth c H locs cells slots (MQ below Qc args s mc ms free) g) : W p l e R s m args below meth c H locs cells slots (vx_MQ below Qc XC args s mc ms free) g := by
  intro T hT X
  obtain ⟨t, a1, o, b1, b2, b3, b4⟩ := k T hT X
  exact ⟨t, a1, o, b1, b2, Or.inl ⟨b3, b4⟩⟩
/-- not caught here: it goes on to the caller -/
theorem vx_widen {g : JFrame} {q : Addr} {k n : Nat} (h1 : cells ≤ k) (h2 : slots ≤ n) (kk : vx_W p l e R s m args below meth c H locs k n Q g q) : vx_W p l e R s m args below meth c H locs cells slots Q g q := fun T hT X => kk T hT (stand_widen X h1 h2)
theorem vx_out {pc : Nat} {E : String} {ce : Cell} {q : Addr} {mc ms : Nat} (hout : ∀ x ∈ c.exceptionTable.toList, covers x pc = false) (hlocks : meth.locks = false) (hcell : H[q]? = some ce) (hv : ce.vm = .none) (hcl : s.vm.findClass E = some ce.cls)
    (hx : ∀ t : State, t.heap = H → s.vm.Alike t.vm → XC E s t) (hf : ∀ z ∈ locs, free z.base) (hc : cells ≤ mc) (hs : slots ≤ ms) :
    vx_W p l e R s m args below meth c H locs cells slots (vx_MQ below Qc XC args s mc ms free) (F0 m pc ls rest) q := by
  intro T hT X
  obtain ⟨st1, hrun, hend, hW, hsm⟩ := X.leaveThrown q (g := F0 m pc ls rest) rfl rfl rfl hout hlocks
  have hcell9 : (T.setFrames (.throwing q :: below)).heap[q]? = some ce := by
    show T.heap[q]? = some ce
    rw [hT]; exact hcell
  exact ⟨_, st1, .threw q, hrun, hend, Or.inr ⟨q, rfl, E, ce, locs, hx _ hT hW.alike, hcell9, hv, hcl, hW, hsm.mono hc hs, hf⟩⟩
theorem vx_frame {U : State} {k n : Nat} (h : s.sameButNew ({ U with vm := s.vm } : State) locs k n) : s.heap.size ≤ U.heap.size ∧ ∀ q : Nat, q < s.heap.size → (∀ z ∈ locs, z.base ≠ q) → U.heap[q]? = s.heap[q]? := by
  obtain ⟨-, h2, -, -, -, h6⟩ := h
  refine ⟨h2, fun q hq hz => ?_⟩
  obtain ⟨c9, e1, e2, e3, e4⟩ := h6 q _ (Array.getElem?_eq_getElem hq)
  have hs : c9.slots = (s.heap[q]).slots := Array.ext_getElem? fun i => e4 i fun hm => hz _ hm rfl
  have h9 : c9 = s.heap[q] := by
    rw [hs] at e2
    exact e2
  have e5 : U.heap[q]? = some c9 := e1
  rw [e5, h9, Array.getElem?_eq_getElem hq]
/-- the words of a throw but the four that speak of the heap -/
def vx_no (w : Cond) : Bool := decide (w ≠ .isRef (.static Bundle.tN "UNASSIGNED_STACK" Bundle.steD)) && decide (w ≠ .isRef (.static Bundle.tN "SUPPRESSED_SENTINEL" Bundle.listD)) && decide (w ≠ .laysStatic Bundle.tN "UNASSIGNED_STACK" Bundle.steD) && decide (w ≠ .laysStatic Bundle.tN "SUPPRESSED_SENTINEL" Bundle.listD)
def vx_at0 (own : String) (ic : Nat) (X : String) (names : List String) : List Cond := (Bundle.ownAtoms0 own ic X names).filter vx_no
def vx_atS (own : String) (ic : Nat) (X : String) (names : List String) : List Cond := (Bundle.ownAtoms own ic X names).filter vx_no
/-- a word that the tables alone decide, or a good one -/
def vx_ot (w : Cond) : Bool := w.onTables || goodWord w
theorem vx_ot_at {args a' : Array Value} {s U : State} {w : Cond} (hW : s.WarmedH U.vm) (hvm : s.vm = U.vm) (hg : vx_ot w = true) (h : w.before args s = true) : w.before a' U = true := by
  simp only [vx_ot, Bool.or_eq_true] at hg
  rcases hg with hg | hg
  · exact va_tabs hg hvm h
  · exact word_at hW (good_of_word hg) h
/-- a list's words: the good ones out of the method's own list, the others by premises of their own -/
theorem vx_hat {args : Array Value} {s : State} {L B : List Cond} (h1 : ∀ w ∈ L.filter goodWord, w.before args s = true) (h2 : ∀ w ∈ L.filter (fun w => !goodWord w), w ∈ B) (h3 : ∀ w ∈ B, w.before args s = true) : ∀ w ∈ L, w.before args s = true := by
  intro w hw
  by_cases g : goodWord w = true
  · exact h1 w (List.mem_filter.mpr ⟨hw, g⟩)
  · refine h3 w (h2 w (List.mem_filter.mpr ⟨hw, ?_⟩))
    show (!goodWord w) = true
    cases hgw : goodWord w
    · rfl
    · exact absurd hgw g
theorem vx_c {args : Array Value} {s : State} {w : Cond} {B : List Cond} (h : w.before args s = true) (t : ∀ w ∈ B, w.before args s = true) : ∀ w' ∈ w :: B, w'.before args s = true := fun w' h' => (List.mem_cons.mp h').elim (fun e => by rw [e]; exact h) (t w')
theorem vx_n {args : Array Value} {s : State} : ∀ w ∈ ([] : List Cond), w.before args s = true := fun _ h => nomatch h
theorem vx_own {args : Array Value} {s : State} {L : List Cond} (h1 : ∀ w ∈ L.filter vx_no, w.before args s = true)
    (hU : (Cond.isRef (.static Bundle.tN "UNASSIGNED_STACK" Bundle.steD)).before args s = true) (hN : (Cond.isRef (.static Bundle.tN "SUPPRESSED_SENTINEL" Bundle.listD)).before args s = true)
    (lU : (Cond.laysStatic Bundle.tN "UNASSIGNED_STACK" Bundle.steD).before args s = true) (lN : (Cond.laysStatic Bundle.tN "SUPPRESSED_SENTINEL" Bundle.listD).before args s = true) : ∀ w ∈ L, w.before args s = true := by
  intro w hw
  by_cases e1 : w = .isRef (.static Bundle.tN "UNASSIGNED_STACK" Bundle.steD)
  · rw [e1]; exact hU
  · by_cases e2 : w = .isRef (.static Bundle.tN "SUPPRESSED_SENTINEL" Bundle.listD)
    · rw [e2]; exact hN
    · by_cases e3 : w = .laysStatic Bundle.tN "UNASSIGNED_STACK" Bundle.steD
      · rw [e3]; exact lU
      · by_cases e4 : w = .laysStatic Bundle.tN "SUPPRESSED_SENTINEL" Bundle.listD
        · rw [e4]; exact lN
        · exact h1 w (List.mem_filter.mpr ⟨hw, by unfold vx_no; rw [decide_eq_true e1, decide_eq_true e2, decide_eq_true e3, decide_eq_true e4]; rfl⟩)
/-- where a static field lies, its class's statics cell in H -/
def vx_L (C n d : String) (A : Nat → Prop) (U : State) (H : Heap) : Prop := ∃ (c : ClassId) (k : Class) (i : Nat) (f : Field) (a : Nat) (cell : Cell), U.vm.findClass C = some c ∧ U.fieldFound? C n d = some (c, k, i, f) ∧ f.isStatic = true ∧ k.statics = some a ∧ H[a]? = some cell ∧ cell.vm.isStatics = true ∧ cell.cls = c ∧ f.slot < cell.slots.size ∧ k.staticTypes[f.slot]? = some f.type ∧ ¬ A a
theorem vx_L.moved {C n d : String} {A : Nat → Prop} {u U : State} {H : Heap} (hvm : u.vm.Alike U.vm) (h : vx_L C n d A u H) : vx_L C n d A U H := by
  obtain ⟨c, k, i, f, a, cell, h1, h2, h3, h4, h5, h6, h7, h8, h9, h10⟩ := h
  obtain ⟨k', hi', he⟩ := State.fieldFound?_setVm hvm h2
  exact ⟨c, k', i, f, a, cell, by rw [hvm.findClass]; exact h1, hi', h3, by rw [he]; exact h4, h5, h6, h7, h8, by rw [he]; exact h9, h10⟩
theorem vx_L.kept {C n d : String} {A : Nat → Prop} {U : State} {H H1 : Heap} (h : vx_L C n d A U H) (hq : ∀ a : Nat, a < H.size → ¬ A a → H1[a]? = H[a]?) : vx_L C n d A U H1 := by
  obtain ⟨c, k, i, f, a, cell, h1, h2, h3, h4, h5, h6, h7, h8, h9, h10⟩ := h
  exact ⟨c, k, i, f, a, cell, h1, h2, h3, h4, by rw [hq a (Array.getElem?_eq_some_iff.mp h5).1 h10]; exact h5, h6, h7, h8, h9, h10⟩
theorem vx_L.narrow {C n d : String} {A B : Nat → Prop} {U : State} {H : Heap} (h : vx_L C n d A U H) (hAB : ∀ q, B q → A q) : vx_L C n d B U H := by
  obtain ⟨c, k, i, f, a, cell, h1, h2, h3, h4, h5, h6, h7, h8, h9, h10⟩ := h
  exact ⟨c, k, i, f, a, cell, h1, h2, h3, h4, h5, h6, h7, h8, h9, fun z => h10 (hAB _ z)⟩
theorem vx_L.word {C n d : String} {A : Nat → Prop} {s : State} {args : Array Value} (h : vx_L C n d A s s.heap) : (Cond.laysStatic C n d).before args s = true := by
  obtain ⟨c, k, i, f, a, cell, h1, h2, h3, h4, h5, h6, h7, h8, h9, -⟩ := h
  show (Cond.laysStatic C n d).holds args s none s [] = true
  exact Cond.laysStatic_of h1 h2 h3 h4 h5 h6 h7 h8 h9
/-- .. and what it holds: null or some reference -/
def vx_Zq (C n d : String) (A : Nat → Prop) (U : State) (H : Heap) : Prop := va_Zq C n d A U H ∧ vx_L C n d A U H
theorem vx_Zq.moved {C n d : String} {A : Nat → Prop} {u U : State} {H : Heap} (hvm : u.vm.Alike U.vm) (h : vx_Zq C n d A u H) : vx_Zq C n d A U H := ⟨va_Zq.moved hvm h.1, vx_L.moved hvm h.2⟩
theorem vx_Zq.kept {C n d : String} {A : Nat → Prop} {U : State} {H H1 : Heap} (h : vx_Zq C n d A U H) (hq : ∀ a : Nat, a < H.size → ¬ A a → H1[a]? = H[a]?) : vx_Zq C n d A U H1 := ⟨va_Zq.kept h.1 hq, vx_L.kept h.2 hq⟩
theorem vx_Zq.narrow {C n d : String} {A B : Nat → Prop} {U : State} {H : Heap} (h : vx_Zq C n d A U H) (hAB : ∀ q, B q → A q) : vx_Zq C n d B U H := ⟨va_Zq.narrow h.1 hAB, vx_L.narrow h.2 hAB⟩
theorem vx_Zqof {args : Array Value} {s : State} {C n d : String} {A : Nat → Prop} (hl : (Cond.laysStatic C n d).before args s = true) (hini : (Cond.initialized C).before args s = true) (h : (Cond.isRef (.static C n d)).before args s = true) (hA : ∀ a : Nat, a < s.heap.size → ¬ A a) : vx_Zq C n d A s s.heap := by
  refine ⟨va_Zqof hl hini h hA, ?_⟩
  obtain ⟨c, k, i, f, a, cell, h1, h2, h3, h4, h5, h6, h7, h8, h9⟩ := Cond.laysStatic_spec hl
  exact ⟨c, k, i, f, a, cell, h1, h2, h3, h4, h5, h6, h7, h8, h9, hA a (Array.getElem?_eq_some_iff.mp h5).1⟩
theorem vx_isRef {C n d : String} {v : Value} {A : Nat → Prop} {s : State} {args : Array Value} (h : va_Z C n d v A s s.heap) (hv : v.isRef = true) : (Cond.isRef (.static C n d)).before args s = true := by
  obtain ⟨cf, kf, fi, f, a, cell, h1, h2, h3, h4, h5, h6, h7, -⟩ := h
  have he : (Term.static C n d).eval args s none [] s = some v := by
    simp [Term.eval, State.fieldNamed?, h1, h2, h4, h5, h6, h7]
  simp only [Cond.before, Cond.holds, Cond.value, he]
  cases v <;> simp_all [Value.isRef]
theorem vx_isRefq {C n d : String} {A : Nat → Prop} {s : State} {args : Array Value} (h : va_Zq C n d A s s.heap) : (Cond.isRef (.static C n d)).before args s = true := by
  rcases h with h | ⟨t, h⟩
  · exact vx_isRef h rfl
  · exact vx_isRef h rfl
/-- the same frame, seen from here: as if the method were called anew in this heap -/
theorem vx_rebase {T : State} (X : Stand p l e R s m args below meth c T locs cells slots) {R' : Room} (hf : R'.frames ≤ R.frames) (hl : R'.locals ≤ R.locals) (hc : cells + R'.cells ≤ R.cells) (hs : slots + R'.slots ≤ R.slots) :
    Stand p l e R' ((T.setVm s.vm).setFrames (.invoking m args :: below)) m args below meth c T [] 0 0 := by
  have htop : (T.setVm s.vm).topJava?.isSome := X.here.top
  have hF : ((T.setVm s.vm).setFrames (.invoking m args :: below)).frames = .invoking m args :: below := State.frames_setFrames _ (State.cur_lt_of_top htop)
  obtain ⟨g₀, hg0⟩ := Option.isSome_iff_exists.mp htop
  obtain ⟨r, hr⟩ := State.topJava?_eq_some.mp hg0
  have hl9 : e.platform.stackLimits (T.setVm s.vm).me = e.platform.stackLimits s.me := X.limits
  have hb9 : (T.setVm s.vm).me.stackBytes = s.me.stackBytes := X.bytes
  refine ⟨X.admits, X.cas, X.clock, hF, ?_, X.hears, X.method, X.code, X.here, X.tail, X.warmed, ?_, ?_, ?_⟩
  · have h := X.room
    have hU : ((T.setVm s.vm).setFrames (.invoking m args :: below)).localsInUse = s.localsInUse := by
      rw [State.localsInUse_invoking hF (meth := meth) (c := c) X.method X.code, State.localsInUse_invoking X.frames X.method X.code]
    simp only [State.hasRoom, Bool.and_eq_true, decide_eq_true_eq] at h ⊢
    obtain ⟨⟨⟨⟨h1, h2, h3, h4, h5, h6⟩, h7⟩, h8⟩, h9⟩ := h
    rw [X.frames, List.length_cons] at h2 h3
    have q1 := X.heapSize
    have q2 := X.used
    simp only [hF, hU, List.length_cons, State.stackLimits_setFrames, State.stackBytes_setFrames, hl9, hb9]
    refine ⟨⟨⟨⟨by omega, by omega, by omega, by omega, by omega, h6⟩, ?_⟩, ?_⟩, X.book⟩
    · show T.heap.size + R'.cells ≤ e.platform.maxCells
      omega
    · show T.slotsUsed + R'.slots ≤ e.platform.maxSlots
      omega
  · rw [State.stackLimits_setFrames]; rfl
  · rw [State.stackBytes_setFrames]; rfl
  · refine ⟨?_, Nat.le_refl _, Nat.le_refl _, ?_, ?_, fun a c9 h9 => ⟨c9, h9, rfl, rfl, fun _ _ => rfl⟩⟩
    · obtain ⟨t, ht, -⟩ := State.frames_cons hr
      show T.setVm s.vm = { ((T.setVm s.vm).setFrames (.invoking m args :: below)).setFrames (T.setVm s.vm).frames with heap := T.heap, slotsUsed := T.slotsUsed }
      rw [State.setFrames_setFrames, State.setFrames_self ht]
      rfl
    · show T.slotsUsed = T.slotsUsed + ((T.heap.toList.drop T.heap.size).map (·.slots.size)).sum
      rw [List.drop_eq_nil_of_le (Nat.le_of_eq Array.length_toList)]
      rfl
    · show ((T.heap.toList.drop T.heap.size).map (·.slots.size)).sum ≤ 0
      rw [List.drop_eq_nil_of_le (Nat.le_of_eq Array.length_toList)]
      exact Nat.le_refl _
/-- 'throw new E()': new; dup; invokespecial; athrow -/
theorem vx_throw0 {cc : ByteArray} {pc : Nat} (hexec : p.tables.exec = Jvm.exec) (hb : c.code = cc) (hl : l.stackTraces = false) {own cls : String} {names : List String} {ik ic mc ms : Nat} {A : Nat → Prop}
    (hown : s.vm.findClass own = some m.cls) (hcls : Bundle.fit cls = true) (hnames : ∀ n ∈ names, Bundle.fit n = true)
    (hk : (Cond.classLink own ik cls).before args s = true) (hini : (Cond.initialized cls).before args s = true) (hat : ∀ w ∈ vx_at0 own ic cls names, w.before args s = true)
    (hgood : ∀ w ∈ Cond.classLink own ik cls :: Cond.initialized cls :: vx_at0 own ic cls names, vx_ot w = true)
    (hU : vx_Zq Bundle.tN "UNASSIGNED_STACK" Bundle.steD A s s.heap) (hN : vx_Zq Bundle.tN "SUPPRESSED_SENTINEL" Bundle.listD A s s.heap) (hS : va_S A s.heap H locs) (hsize : ls.size = c.maxLocals)
    (d0 : decode cc pc = .ok (.new ik, 3)) (d3 : decode cc (pc + 3) = .ok (.dup, 1)) (d4 : decode cc (pc + 4) = .ok (.invokespecial ic, 3)) (d7 : decode cc (pc + 7) = .ok (.athrow, 1))
    (hout : ∀ x ∈ c.exceptionTable.toList, covers x (pc + 7) = false)
    (hRframes : names.length + 3 < R.frames) (hRlocals : (rest.map fun v => v.category).sum + (13 * (names.length + 1) + 42) ≤ R.locals) (hRcells : cells + 1 ≤ R.cells) (hRslots : slots + 6 ≤ R.slots) (hlocks : meth.locks = false)
    (hx : ∀ t : State, s.vm.Alike t.vm → H.size ≤ t.heap.size → (∀ q : Nat, q < H.size → t.heap[q]? = H[q]?) → XC cls s t)
    (hf : ∀ z ∈ locs, free z.base) (hc : cells + 1 ≤ mc) (hs : slots + 6 ≤ ms) :
    W p l e R s m args below meth c H locs cells slots (vx_MQ below Qc XC args s mc ms free) (F0 m pc ls rest) := by
  intro T hT X
  have htr : e.platform.stackTraces = false := (show e.platform.stackTraces = l.stackTraces by rw [X.admits.platform]).trans hl
  have Y := vx_rebase X (R' := { frames := R.frames, locals := R.locals, cells := 1, slots := 6 }) (Nat.le_refl _) (Nat.le_refl _) hRcells hRslots
  obtain ⟨s', hA⟩ : ∃ z, z = (T.setVm s.vm).setFrames (.invoking m args :: below) := ⟨_, rfl⟩
  rw [← hA] at Y
  have hvm : s'.vm = s.vm := by rw [hA]; rfl
  have hhp : s'.heap = H := by rw [hA]; exact hT
  have hW0 : s.WarmedH s'.vm := by rw [hvm]; exact State.WarmedH.refl s
  have hat' : ∀ w ∈ vx_at0 own ic cls names, w.before args s' = true := fun w hw => vx_ot_at hW0 hvm.symm (hgood w (List.mem_cons_of_mem _ (List.mem_cons_of_mem _ hw))) (hat w hw)
  have hk' : (Cond.classLink own ik cls).before args s' = true := vx_ot_at hW0 hvm.symm (hgood _ List.mem_cons_self) hk
  have hini' : (Cond.initialized cls).before args s' = true := vx_ot_at hW0 hvm.symm (hgood _ (List.mem_cons_of_mem _ List.mem_cons_self)) hini
  have hU' : vx_Zq Bundle.tN "UNASSIGNED_STACK" Bundle.steD A s' s'.heap := by rw [hhp]; exact vx_Zq.moved hW0.alike (hU.kept hS.2.1)
  have hN' : vx_Zq Bundle.tN "SUPPRESSED_SENTINEL" Bundle.listD A s' s'.heap := by rw [hhp]; exact vx_Zq.moved hW0.alike (hN.kept hS.2.1)
  have h : ∀ w ∈ Bundle.ownAtoms0 own ic cls names, w.before args s' = true := vx_own hat' (vx_isRefq hU'.1) (vx_isRefq hN'.1) hU'.2.word hN'.2.word
  have hown' : s'.vm.findClass own = some m.cls := by rw [hvm]; exact hown
  have hins : (Cond.instantiable cls 6).before args s' = true := h _ (by simp [Bundle.ownAtoms0])
  obtain ⟨vm₁, cX, kX, hfX, hkX, -, -, X₁, st1⟩ := Y.newCold hexec (own := own) (C := cls) (index := ik) (n := 6) hown' hk' hins hini'
    (g := F0 m pc ls rest) rfl (by rw [hb]; exact d0) (Nat.le_refl _) (Nat.le_refl _)
  generalize hT1 : (T.setVm vm₁).pushCell { cls := cX, slots := kX.instanceTypes.map defaultValue, vm := .none } = T1 at X₁ st1
  have hcat : (Value.ref T.heap.size).category = 1 := rfl
  have hcellA : T1.heap[T.heap.size]? = some (freshCell cX kX) := by rw [← hT1]; exact State.heap_pushCell_size _ _
  have d3' : decode c.code (pc + 3) = .ok (.dup, 1) := by rw [hb]; exact d3
  obtain ⟨U, hsteps, hrun, hend, hW, hsame, ce, hce, hO⟩ := X₁.ctorThrow0 hexec htr (own := own) (cls := cls) (names := names) (ic := ic) hown' hcls hnames h (fun x hx => nomatch hx) hfX hkX hcellA (by rw [hhp, hT]; exact Nat.le_refl _)
    (g := { method := m, pc := pc + 4, locals := ls, stack := .ref T.heap.size :: .ref T.heap.size :: rest, locked := none }) rfl hsize rfl rfl (rest := rest) rfl
    (by rw [hb]; exact d4) (by rw [hb]; exact d7) hout hRframes (by simp only [List.map_cons, List.sum_cons, hcat]; omega) hlocks
  obtain ⟨f1, f2⟩ := vx_frame hsame
  rw [hhp] at f1 f2
  have hWs : s.WarmedH U.vm := State.WarmedH.trans hW0 hW
  have hcl : s.vm.findClass cls = some ce.cls := by
    have h9 := hO.cls
    rw [hvm] at h9
    exact h9
  have hall : s.sameButNew ({ U with vm := s.vm } : State) locs mc ms := by
    subst hA
    obtain ⟨e1, e2⟩ := hsame
    rw [State.setFrames_setFrames] at e1
    have h2 : (T.setVm s.vm).sameButNew ({ U with vm := s.vm } : State) [] (0 + 1) (0 + 6) := ⟨e1, e2⟩
    have h3 := X.same.trans h2
    rw [List.append_nil] at h3
    exact h3.mono hc hs
  refine ⟨U, ?_, .threw T.heap.size, hrun, hend, Or.inr ⟨T.heap.size, rfl, cls, ce, locs, hx U hWs.alike f1 (fun q hq => f2 q hq (fun z hz => nomatch hz)), hce, hO.vm, hcl, hWs, hall, hf⟩⟩
  refine st1 _ ?_
  show Steps p.tables e below (T1.setTop { method := m, pc := pc + 3, locals := ls, stack := .ref T.heap.size :: rest, locked := none }) _
  jvm_step X₁.here [X₁.here.top, hexec, d3', Value.category]
  exact hsteps
/-- 'throw new E("text")': new; dup; ldc; invokespecial; athrow -/
theorem vx_throwS {cc : ByteArray} {pc : Nat} (hexec : p.tables.exec = Jvm.exec) (hb : c.code = cc) (hl : l.stackTraces = false) {own cls text : String} {names : List String} {ik is ic mc ms sa : Nat} {A : Nat → Prop}
    (hown : s.vm.findClass own = some m.cls) (hcls : Bundle.fit cls = true) (hnames : ∀ n ∈ names, Bundle.fit n = true)
    (hk : (Cond.classLink own ik cls).before args s = true) (hini : (Cond.initialized cls).before args s = true) (hstr : vk_R own is text sa s) (hat : ∀ w ∈ vx_atS own ic cls names, w.before args s = true)
    (hgood : ∀ w ∈ Cond.classLink own ik cls :: Cond.initialized cls :: vx_atS own ic cls names, vx_ot w = true)
    (hU : vx_Zq Bundle.tN "UNASSIGNED_STACK" Bundle.steD A s s.heap) (hN : vx_Zq Bundle.tN "SUPPRESSED_SENTINEL" Bundle.listD A s s.heap) (hS : va_S A s.heap H locs) (hsize : ls.size = c.maxLocals)
    (d0 : decode cc pc = .ok (.new ik, 3)) (d3 : decode cc (pc + 3) = .ok (.dup, 1)) (d4 : decode cc (pc + 4) = .ok (.ldc is, 2)) (d6 : decode cc (pc + 6) = .ok (.invokespecial ic, 3)) (d9 : decode cc (pc + 9) = .ok (.athrow, 1))
    (hout : ∀ x ∈ c.exceptionTable.toList, covers x (pc + 9) = false)
    (hRframes : names.length + 3 < R.frames) (hRlocals : (rest.map fun v => v.category).sum + (13 * (names.length + 1) + 43) ≤ R.locals) (hRcells : cells + 1 ≤ R.cells) (hRslots : slots + 6 ≤ R.slots) (hlocks : meth.locks = false)
    (hx : ∀ t : State, s.vm.Alike t.vm → H.size ≤ t.heap.size → (∀ q : Nat, q < H.size → t.heap[q]? = H[q]?) → XC cls s t)
    (hf : ∀ z ∈ locs, free z.base) (hc : cells + 1 ≤ mc) (hs : slots + 6 ≤ ms) :
    W p l e R s m args below meth c H locs cells slots (vx_MQ below Qc XC args s mc ms free) (F0 m pc ls rest) := by
  intro T hT X
  have htr : e.platform.stackTraces = false := (show e.platform.stackTraces = l.stackTraces by rw [X.admits.platform]).trans hl
  have Y := vx_rebase X (R' := { frames := R.frames, locals := R.locals, cells := 1, slots := 6 }) (Nat.le_refl _) (Nat.le_refl _) hRcells hRslots
  obtain ⟨s', hA⟩ : ∃ z, z = (T.setVm s.vm).setFrames (.invoking m args :: below) := ⟨_, rfl⟩
  rw [← hA] at Y
  have hvm : s'.vm = s.vm := by rw [hA]; rfl
  have hhp : s'.heap = H := by rw [hA]; exact hT
  have hW0 : s.WarmedH s'.vm := by rw [hvm]; exact State.WarmedH.refl s
  have hat' : ∀ w ∈ vx_atS own ic cls names, w.before args s' = true := fun w hw => vx_ot_at hW0 hvm.symm (hgood w (List.mem_cons_of_mem _ (List.mem_cons_of_mem _ hw))) (hat w hw)
  have hk' : (Cond.classLink own ik cls).before args s' = true := vx_ot_at hW0 hvm.symm (hgood _ List.mem_cons_self) hk
  have hini' : (Cond.initialized cls).before args s' = true := vx_ot_at hW0 hvm.symm (hgood _ (List.mem_cons_of_mem _ List.mem_cons_self)) hini
  have hU' : vx_Zq Bundle.tN "UNASSIGNED_STACK" Bundle.steD A s' s'.heap := by rw [hhp]; exact vx_Zq.moved hW0.alike (hU.kept hS.2.1)
  have hN' : vx_Zq Bundle.tN "SUPPRESSED_SENTINEL" Bundle.listD A s' s'.heap := by rw [hhp]; exact vx_Zq.moved hW0.alike (hN.kept hS.2.1)
  have h : ∀ w ∈ Bundle.ownAtoms own ic cls names, w.before args s' = true := vx_own hat' (vx_isRefq hU'.1) (vx_isRefq hN'.1) hU'.2.word hN'.2.word
  have hown' : s'.vm.findClass own = some m.cls := by rw [hvm]; exact hown
  have hins : (Cond.instantiable cls 6).before args s' = true := h _ (by simp [Bundle.ownAtoms])
  obtain ⟨vm₁, cX, kX, hfX, hkX, -, -, X₁, st1⟩ := Y.newCold hexec (own := own) (C := cls) (index := ik) (n := 6) hown' hk' hins hini'
    (g := F0 m pc ls rest) rfl (by rw [hb]; exact d0) (Nat.le_refl _) (Nat.le_refl _)
  generalize hT1 : (T.setVm vm₁).pushCell { cls := cX, slots := kX.instanceTypes.map defaultValue, vm := .none } = T1 at X₁ st1
  have hcat : (Value.ref T.heap.size).category = 1 := rfl
  have hcellA : T1.heap[T.heap.size]? = some (freshCell cX kX) := by rw [← hT1]; exact State.heap_pushCell_size _ _
  have d3' : decode c.code (pc + 3) = .ok (.dup, 1) := by rw [hb]; exact d3
  have d4' : decode c.code (pc + 4) = .ok (.ldc is, 2) := by rw [hb]; exact d4
  have hstr' : vk_R own is text sa s' := vk_R.warm hW0 hstr
  obtain ⟨U, hsteps, hrun, hend, hW, hsame, ce, hce, hO⟩ := X₁.ctorThrowS hexec htr (own := own) (cls := cls) (names := names) (ic := ic) hown' hcls hnames h (fun x hx => nomatch hx) hfX hkX hcellA (by rw [hhp, hT]; exact Nat.le_refl _) (msg := .ref sa) rfl
    (g := { method := m, pc := pc + 6, locals := ls, stack := .ref sa :: .ref T.heap.size :: .ref T.heap.size :: rest, locked := none }) rfl hsize rfl rfl (rest := rest) rfl
    (by rw [hb]; exact d6) (by rw [hb]; exact d9) hout hRframes (by simp only [List.map_cons, List.sum_cons, hcat]; omega) hlocks
  obtain ⟨f1, f2⟩ := vx_frame hsame
  rw [hhp] at f1 f2
  have hWs : s.WarmedH U.vm := State.WarmedH.trans hW0 hW
  have hcl : s.vm.findClass cls = some ce.cls := by
    have h9 := hO.cls
    rw [hvm] at h9
    exact h9
  have hall : s.sameButNew ({ U with vm := s.vm } : State) locs mc ms := by
    subst hA
    obtain ⟨e1, e2⟩ := hsame
    rw [State.setFrames_setFrames] at e1
    have h2 : (T.setVm s.vm).sameButNew ({ U with vm := s.vm } : State) [] (0 + 1) (0 + 6) := ⟨e1, e2⟩
    have h3 := X.same.trans h2
    rw [List.append_nil] at h3
    exact h3.mono hc hs
  refine ⟨U, ?_, .threw T.heap.size, hrun, hend, Or.inr ⟨T.heap.size, rfl, cls, ce, locs, hx U hWs.alike f1 (fun q hq => f2 q hq (fun z hz => nomatch hz)), hce, hO.vm, hcl, hWs, hall, hf⟩⟩
  refine st1 _ ?_
  show Steps p.tables e below (T1.setTop { method := m, pc := pc + 3, locals := ls, stack := .ref T.heap.size :: rest, locked := none }) _
  jvm_step X₁.here [X₁.here.top, hexec, d3', Value.category]
  exact X₁.ldcString hexec (own := own) (text := text) (index := is) (a := sa) hown' hstr'.1 hstr'.2
    (g := { method := m, pc := pc + 4, locals := ls, stack := .ref T.heap.size :: .ref T.heap.size :: rest, locked := none }) rfl d4' _ hsteps
/-- 'throw new E("text")', the text by a wide index -/
theorem vx_throwSW {cc : ByteArray} {pc : Nat} (hexec : p.tables.exec = Jvm.exec) (hb : c.code = cc) (hl : l.stackTraces = false) {own cls text : String} {names : List String} {ik is ic mc ms sa : Nat} {A : Nat → Prop}
    (hown : s.vm.findClass own = some m.cls) (hcls : Bundle.fit cls = true) (hnames : ∀ n ∈ names, Bundle.fit n = true)
    (hk : (Cond.classLink own ik cls).before args s = true) (hini : (Cond.initialized cls).before args s = true) (hstr : vk_R own is text sa s) (hat : ∀ w ∈ vx_atS own ic cls names, w.before args s = true)
    (hgood : ∀ w ∈ Cond.classLink own ik cls :: Cond.initialized cls :: vx_atS own ic cls names, vx_ot w = true)
    (hU : vx_Zq Bundle.tN "UNASSIGNED_STACK" Bundle.steD A s s.heap) (hN : vx_Zq Bundle.tN "SUPPRESSED_SENTINEL" Bundle.listD A s s.heap) (hS : va_S A s.heap H locs) (hsize : ls.size = c.maxLocals)
    (d0 : decode cc pc = .ok (.new ik, 3)) (d3 : decode cc (pc + 3) = .ok (.dup, 1)) (d4 : decode cc (pc + 4) = .ok (.ldc_w is, 3)) (d7 : decode cc (pc + 7) = .ok (.invokespecial ic, 3)) (d10 : decode cc (pc + 10) = .ok (.athrow, 1))
    (hout : ∀ x ∈ c.exceptionTable.toList, covers x (pc + 10) = false)
    (hRframes : names.length + 3 < R.frames) (hRlocals : (rest.map fun v => v.category).sum + (13 * (names.length + 1) + 43) ≤ R.locals) (hRcells : cells + 1 ≤ R.cells) (hRslots : slots + 6 ≤ R.slots) (hlocks : meth.locks = false)
    (hx : ∀ t : State, s.vm.Alike t.vm → H.size ≤ t.heap.size → (∀ q : Nat, q < H.size → t.heap[q]? = H[q]?) → XC cls s t)
    (hf : ∀ z ∈ locs, free z.base) (hc : cells + 1 ≤ mc) (hs : slots + 6 ≤ ms) :
    W p l e R s m args below meth c H locs cells slots (vx_MQ below Qc XC args s mc ms free) (F0 m pc ls rest) := by
  intro T hT X
  have htr : e.platform.stackTraces = false := (show e.platform.stackTraces = l.stackTraces by rw [X.admits.platform]).trans hl
  have Y := vx_rebase X (R' := { frames := R.frames, locals := R.locals, cells := 1, slots := 6 }) (Nat.le_refl _) (Nat.le_refl _) hRcells hRslots
  obtain ⟨s', hA⟩ : ∃ z, z = (T.setVm s.vm).setFrames (.invoking m args :: below) := ⟨_, rfl⟩
  rw [← hA] at Y
  have hvm : s'.vm = s.vm := by rw [hA]; rfl
  have hhp : s'.heap = H := by rw [hA]; exact hT
  have hW0 : s.WarmedH s'.vm := by rw [hvm]; exact State.WarmedH.refl s
  have hat' : ∀ w ∈ vx_atS own ic cls names, w.before args s' = true := fun w hw => vx_ot_at hW0 hvm.symm (hgood w (List.mem_cons_of_mem _ (List.mem_cons_of_mem _ hw))) (hat w hw)
  have hk' : (Cond.classLink own ik cls).before args s' = true := vx_ot_at hW0 hvm.symm (hgood _ List.mem_cons_self) hk
  have hini' : (Cond.initialized cls).before args s' = true := vx_ot_at hW0 hvm.symm (hgood _ (List.mem_cons_of_mem _ List.mem_cons_self)) hini
  have hU' : vx_Zq Bundle.tN "UNASSIGNED_STACK" Bundle.steD A s' s'.heap := by rw [hhp]; exact vx_Zq.moved hW0.alike (hU.kept hS.2.1)
  have hN' : vx_Zq Bundle.tN "SUPPRESSED_SENTINEL" Bundle.listD A s' s'.heap := by rw [hhp]; exact vx_Zq.moved hW0.alike (hN.kept hS.2.1)
  have h : ∀ w ∈ Bundle.ownAtoms own ic cls names, w.before args s' = true := vx_own hat' (vx_isRefq hU'.1) (vx_isRefq hN'.1) hU'.2.word hN'.2.word
  have hown' : s'.vm.findClass own = some m.cls := by rw [hvm]; exact hown
  have hins : (Cond.instantiable cls 6).before args s' = true := h _ (by simp [Bundle.ownAtoms])
  obtain ⟨vm₁, cX, kX, hfX, hkX, -, -, X₁, st1⟩ := Y.newCold hexec (own := own) (C := cls) (index := ik) (n := 6) hown' hk' hins hini'
    (g := F0 m pc ls rest) rfl (by rw [hb]; exact d0) (Nat.le_refl _) (Nat.le_refl _)
  generalize hT1 : (T.setVm vm₁).pushCell { cls := cX, slots := kX.instanceTypes.map defaultValue, vm := .none } = T1 at X₁ st1
  have hcat : (Value.ref T.heap.size).category = 1 := rfl
  have hcellA : T1.heap[T.heap.size]? = some (freshCell cX kX) := by rw [← hT1]; exact State.heap_pushCell_size _ _
  have d3' : decode c.code (pc + 3) = .ok (.dup, 1) := by rw [hb]; exact d3
  have d4' : decode c.code (pc + 4) = .ok (.ldc_w is, 3) := by rw [hb]; exact d4
  have hstr' : vk_R own is text sa s' := vk_R.warm hW0 hstr
  obtain ⟨U, hsteps, hrun, hend, hW, hsame, ce, hce, hO⟩ := X₁.ctorThrowS hexec htr (own := own) (cls := cls) (names := names) (ic := ic) hown' hcls hnames h (fun x hx => nomatch hx) hfX hkX hcellA (by rw [hhp, hT]; exact Nat.le_refl _) (msg := .ref sa) rfl
    (g := { method := m, pc := pc + 7, locals := ls, stack := .ref sa :: .ref T.heap.size :: .ref T.heap.size :: rest, locked := none }) rfl hsize rfl rfl (rest := rest) rfl
    (by rw [hb]; exact d7) (by rw [hb]; exact d10) hout hRframes (by simp only [List.map_cons, List.sum_cons, hcat]; omega) hlocks
  obtain ⟨f1, f2⟩ := vx_frame hsame
  rw [hhp] at f1 f2
  have hWs : s.WarmedH U.vm := State.WarmedH.trans hW0 hW
  have hcl : s.vm.findClass cls = some ce.cls := by
    have h9 := hO.cls
    rw [hvm] at h9
    exact h9
  have hall : s.sameButNew ({ U with vm := s.vm } : State) locs mc ms := by
    subst hA
    obtain ⟨e1, e2⟩ := hsame
    rw [State.setFrames_setFrames] at e1
    have h2 : (T.setVm s.vm).sameButNew ({ U with vm := s.vm } : State) [] (0 + 1) (0 + 6) := ⟨e1, e2⟩
    have h3 := X.same.trans h2
    rw [List.append_nil] at h3
    exact h3.mono hc hs
  refine ⟨U, ?_, .threw T.heap.size, hrun, hend, Or.inr ⟨T.heap.size, rfl, cls, ce, locs, hx U hWs.alike f1 (fun q hq => f2 q hq (fun z hz => nomatch hz)), hce, hO.vm, hcl, hWs, hall, hf⟩⟩
  refine st1 _ ?_
  show Steps p.tables e below (T1.setTop { method := m, pc := pc + 3, locals := ls, stack := .ref T.heap.size :: rest, locked := none }) _
  jvm_step X₁.here [X₁.here.top, hexec, d3', Value.category]
  exact X₁.ldcStringW hexec (own := own) (text := text) (index := is) (a := sa) hown' hstr'.1 hstr'.2
    (g := { method := m, pc := pc + 4, locals := ls, stack := .ref T.heap.size :: .ref T.heap.size :: rest, locked := none }) rfl d4' _ hsteps
end Ends
section Bodies
variable {l : Launch}
theorem vx_ofW {y : MethodName} {ws ws' : List Cond} {rm : Room} {Pc : Array Value → State → Prop} {Qc : Array Value → State → Outcome → State → Prop} {XC : String → State → State → Prop} {mc ms : Nat} {free : Addr → Prop} {cc : ByteArray} {maxL : Nat} {ret : Option FieldType}
    (hy : plainName y.cls = true) (hw : ws = Cond.code y cc maxL ret :: ws')
    (body : ∀ p e s m args below meth c s₁, BodyLoose p l y (headSpec ws rm) cc maxL ret e s m args below meth c s₁ → c.maxLocals = maxL → (∀ x ∈ c.exceptionTable.toList, False) → Pc args s →
      W p l e (headSpec ws rm).room s m args below meth c s.heap [] 0 0 (vx_MQ below Qc XC args s mc ms free) (entryFrame m args maxL)) : vx_Met l y ws rm Pc Qc XC mc ms free := by
  refine MetFree.of_bodyS (code := cc) (maxLocals := maxL) (ret := ret) hy ?_ ?_
  · intro args s m h hn
    obtain ⟨meth, c, h1, h2, h3, h4, h5, h6, -, -⟩ := Cond.code_spec hn (atoms_spec (ws := ws) h _ (by rw [hw]; exact List.mem_cons_self))
    exact ⟨meth, c, h1, h2, h3, h4, h5, h6⟩
  · intro p e s m args below meth c s₁ B hml hP _
    have hh0 : s₁.heap = s.heap := by rw [B.state]; rfl
    have ht : ∀ x ∈ c.exceptionTable.toList, False := by
      obtain ⟨meth9, c9, h1, h2, -, -, -, -, h7, -⟩ := Cond.code_spec B.named (atoms_spec (ws := ws) B.pre _ (by rw [hw]; exact List.mem_cons_self))
      cases Option.some.inj (h1.symm.trans B.method)
      cases Option.some.inj (h2.symm.trans (Stand.of_body B).code)
      intro x hx
      rw [Array.isEmpty_iff.mp h7] at hx
      cases hx
    obtain ⟨t, a1, o, b1, b2, b3⟩ := body p e s m args below meth c s₁ B hml ht hP s₁ hh0 (Stand.of_body B)
    exact ⟨t, o, a1, b1, b2, b3⟩
/-- the table of a body with handlers -/
theorem vx_table {p : Program} {x y : MethodName} {S : Spec} {cc bytes : ByteArray} {maxL maxL' : Nat} {ret ret' : Option FieldType} {e : Env} {s s₁ : State} {m : MethodId} {args : Array Value} {below : List Frame} {meth : Method} {c : Code} {hh : List (Nat × Nat × Nat × Nat)}
    (B : BodyLoose p l y S cc maxL ret e s m args below meth c s₁) (h : (Cond.codeWith y bytes maxL' ret' hh).before args s = true) : c.exceptionTable.toList = tableOf hh := by
  obtain ⟨m9, meth9, c9, hn9, h1, h2, -, -, h6, -⟩ := Cond.codeWith_spec h
  cases Option.some.inj (hn9.symm.trans B.named)
  cases Option.some.inj (h1.symm.trans B.method)
  cases Option.some.inj (h2.symm.trans (Stand.of_body B).code)
  rw [← h6, table_eq]
end Bodies
end VXA
/-! ===== END ===== -/
/-! ===== BEGIN a static call of a method with an exception table ===== -/
section VXS
variable {p : Program} {l : Launch} {e : Env} {R : Room} {s : State} {m : MethodId} {args : Array Value} {below : List Frame} {meth : Method} {c : Code} {T : State} {H : Heap} {locs : List Loc} {cells slots : Nat}
abbrev vx_CSW (R : Room) (s : State) (args : Array Value) (own : String) (index : Nat) (y : MethodName) (bytes : ByteArray) (maxL : Nat) (ret : Option FieldType) (hh : List (Nat × Nat × Nat × Nat)) (ws : List Cond) (rm : Room) (mc ms n : Nat) : Prop :=
  (rm.cells = mc ∧ rm.slots = ms ∧ rm.frames + 1 ≤ R.frames ∧ 8 + (maxL + 11) + rm.locals ≤ R.locals ∧ (∀ w ∈ ws, ∀ (a' : Array Value) (U : State), s.WarmedH U.vm → w.before a' U = true) ∧ Cond.codeWith y bytes maxL ret hh ∈ ws) ∧
  (Cond.codeWith y bytes maxL ret hh).before args s = true ∧ (Cond.initialized y.cls).before args s = true ∧ (y.cls ≠ "java/lang/invoke/MethodHandle" ∧ y.cls ≠ "java/lang/invoke/VarHandle") ∧
  (∀ sig, parseMethodDescriptor y.desc = some sig → n = sig.parameters.length) ∧ (Cond.methodLink own index y).before args s = true ∧ (Cond.static y).before args s = true
theorem vx_cwSW {own : String} {index maxL mc ms : Nat} {y : MethodName} {bytes : ByteArray} {ret : Option FieldType} {hh : List (Nat × Nat × Nat × Nat)} {Ts ws ws' : List Cond} {rm : Room} (n : Nat) (ht : ∀ w ∈ Ts, w.before args s = true) (hT : GoodIn Ts (va_wsS own index y ws)) (hw : ws = Cond.codeWith y bytes maxL ret hh :: ws') (hrc : rm.cells = mc) (hrs : rm.slots = ms)
    (hd : y.cls ≠ "java/lang/invoke/MethodHandle" ∧ y.cls ≠ "java/lang/invoke/VarHandle" ∧ (parseMethodDescriptor y.desc).map (fun d => d.parameters.length) = some n) (hR : rm.frames + 1 ≤ R.frames ∧ 8 + (maxL + 11) + rm.locals ≤ R.locals) :
    vx_CSW R s args own index y bytes maxL ret hh ws rm mc ms n := by
  have ok : ∀ w ∈ va_wsS own index y ws, w.before args s = true := fun w h => ht w (hT w h).1
  have hG : GoodIn Ts ws := fun w h => hT w (by unfold va_wsS; exact List.mem_append_right _ h)
  have hc : Cond.codeWith y bytes maxL ret hh ∈ ws := by rw [hw]; exact List.mem_cons_self
  refine ⟨⟨hrc, hrs, hR.1, hR.2, pay_in ht hG, hc⟩, ht _ (hG _ hc).1, ok _ (by simp [va_wsS]), ⟨hd.1, hd.2.1⟩, fun sig h => ?_, ok _ (by simp [va_wsS]), ok _ (by simp [va_wsS])⟩
  have h2 := hd.2.2
  rw [h] at h2
  exact (Option.some.inj h2).symm
theorem vx_callSW (X : Stand p l e R s m args below meth c T locs cells slots) (hexec : p.tables.exec = Jvm.exec) {own : String} {index : Nat} {y : MethodName} {bytes : ByteArray} {maxL : Nat} {ret : Option FieldType} {hh : List (Nat × Nat × Nat × Nat)}
    (hown : s.vm.findClass own = some m.cls) (hlink : (Cond.methodLink own index y).before args s = true) (hstat : (Cond.static y).before args s = true) (hinit : (Cond.initialized y.cls).before args s = true)
    (hcode : (Cond.codeWith y bytes maxL ret hh).before args s = true) (hy : y.cls ≠ "java/lang/invoke/MethodHandle" ∧ y.cls ≠ "java/lang/invoke/VarHandle")
    {W9 : Nat} {Pre : Pt → Array Value → Prop} {Post : Pt → Array Value → Option Value → Pt → Prop} (hK : Back l R p e below s args y 3 W9 Pre Post)
    {g : JFrame} (hg : g.method = m) (hsize : g.locals.size = c.maxLocals) {argsL rest : List Value} (hlen : ∀ sig, parseMethodDescriptor y.desc = some sig → argsL.length = sig.parameters.length)
    (hstack : g.stack = argsL.reverse ++ rest) (hW : 2 * g.monitorRoom + (rest.map fun v => v.category).sum ≤ W9) (hdg : decode c.code g.pc = .ok (.invokestatic index, 3))
    (hpre : ∀ vm₁, s.WarmedH vm₁ → Pre ⟨T.setVm vm₁, locs, cells, slots⟩ argsL.toArray) :
    ∃ (v : Option Value) (vm₁ : Vm) (B : Pt), s.WarmedH vm₁ ∧ Stand p l e R s m args below meth c B.U B.locs B.cells B.slots ∧ Post ⟨T.setVm vm₁, locs, cells, slots⟩ argsL.toArray v B ∧
      ∀ target, Steps p.tables e below (B.U.setTop { g with pc := g.pc + 3, stack := v.toList ++ rest }) target → Steps p.tables e below (T.setTop g) target := by
  obtain ⟨mk, methM, cM, hnamed, hmethM, -, -, -, -, -, -, hsigM⟩ := Cond.codeWith_spec hcode
  have hstatic : methM.isStatic = true := Cond.static_spec hnamed hmethM hstat
  obtain ⟨kP, hkP, -⟩ := className_of_methodNamed hnamed
  have hinitP : kP.init = .initialized := Cond.initialized_spec (findClass_of_methodNamed hnamed) hkP hinit
  obtain ⟨vm₁, X₁, hstep₁⟩ := X.invokestatic hexec hown hlink hnamed hmethM hstatic hkP hinitP hy (g := g) hg (argsL := argsL) (rest := rest) (hlen _ hsigM) hstack hdg
  obtain ⟨v, B, X', hpost, hsteps⟩ := hK m meth c ⟨T.setVm vm₁, locs, cells, slots⟩ { g with stack := rest } (.invokestatic index) mk argsL.toArray X₁ hg hsize hdg hW (X₁.named hnamed) (hpre vm₁ X₁.warmed)
  exact ⟨v, vm₁, B, X₁.warmed, X', hpost, fun target h => hstep₁ _ fun acts => by rw [doInvoke_state]; exact hsteps.trans h⟩
theorem vx_runSW {y : MethodName} {bytes cc : ByteArray} {maxL nL mc ms n index : Nat} {ret : Option FieldType} {hh : List (Nat × Nat × Nat × Nat)} {ws : List Cond} {rm : Room} {Pc : Array Value → State → Prop} {Qc : Array Value → State → Outcome → State → Prop} {free : Addr → Prop} {Ts : List Cond} {own : String} {As rest : List Value} {g : JFrame}
    (S : CallFix p m c cc nL s args Ts own) (hM : Met l y ws rm Pc Qc mc ms free) (cw : vx_CSW R s args own index y bytes maxL ret hh ws rm mc ms n) (hp : PreS s H Pc As)
    (hg : g.method = m) (hn : As.length = n) (hsize : g.locals.size = nL) (hstack : g.stack = As.reverse ++ rest) (hW : 2 * g.monitorRoom + (rest.map fun v => v.category).sum ≤ 8) (hdg : decode cc g.pc = .ok (.invokestatic index, 3)) (hf : cells + mc ≤ R.cells ∧ slots + ms ≤ R.slots) :
    va_Run p l e R s m args below meth c H locs cells slots mc ms g rest (Qc As.toArray) (free) := by
  obtain ⟨⟨hrc, hrs, hfr, hlo, hws, hcw⟩, hcode, hini, hy, hlen, hl, hstt⟩ := cw
  have hK : Back l R p e below s args y 3 8 (PreOf R mc ms Pc) (PostOf Qc mc ms free) := va_backW (hh := hh) (bytes := bytes) (maxL := maxL) (ret := ret) hM hp.1 hrc hrs hfr hlo hws hcw (fun a' U hW => word_at hW (Or.inl (by first | rfl | simp [Cond.onTables, Cond.keeps, Cond.steady])) hini)
  obtain ⟨hx, hb, hml, ho, -⟩ := S
  intro T hT X
  obtain ⟨v, vm₁, ⟨U', l2, c2, s2⟩, hW₁, X', ⟨g', mk, t, L, e1, e2, hq, h1, hL, h2, h3⟩, st⟩ := vx_callSW X hx (hh := hh) (bytes := bytes) (maxL := maxL) (ret := ret) ho hl hstt hini hcode hy hK hg (hsize.trans hml.symm) (argsL := As) (rest := rest) (fun sig h => hn.trans (hlen sig h)) hstack hW (by rw [hb]; exact hdg)
    (fun vm₁ hW₁ => ⟨hf.1, hf.2, hp.2 (T.setVm vm₁) hT hW₁⟩)
  dsimp only [Pt.U, Pt.locs, Pt.cells, Pt.slots] at X' e1 e2 h1 h2 h3 st
  subst h1; subst h2; subst h3
  exact ⟨v, (T.setVm vm₁).calling g' mk As.toArray, t, U', L, hT, X', hL, e1, e2, hq, st⟩
/-- not caught here, past rows that name other classes: it goes on to the caller -/
theorem vx_outP {p : Program} {l : Launch} {e : Env} {R : Room} {s : State} {m : MethodId} {args : Array Value} {below : List Frame} {meth : Method} {c : Code} {H : Heap} {locs : List Loc} {cells slots : Nat} {free : Addr → Prop} {ls : Array Slot} {rest : List Value} {Qc : Array Value → State → Outcome → State → Prop} {XC : String → State → State → Prop}
    {pc : Nat} {own E : String} {ce : Cell} {q : Addr} {mc ms : Nat} (hown : s.vm.findClass own = some m.cls) (hlocks : meth.locks = false)
    (hpass : ∀ z ∈ c.exceptionTable.toList, covers z pc = false ∨ (z.catchType ≠ 0 ∧ ∃ nm : String, (Cond.classLink own z.catchType nm).before args s = true ∧ va_Nc E nm s)) (hcell : H[q]? = some ce) (hv : ce.vm = .none) (hcl : s.vm.findClass E = some ce.cls)
    (hx : ∀ t : State, t.heap = H → s.vm.Alike t.vm → XC E s t) (hf : ∀ z ∈ locs, free z.base) (hc : cells ≤ mc) (hs : slots ≤ ms) :
    vx_W p l e R s m args below meth c H locs cells slots (vx_MQ below Qc XC args s mc ms free) (F0 m pc ls rest) q := by
  intro T hT X
  have hpl : e.platform.magicAccessors = ({} : Platform).magicAccessors := by rw [X.admits.platform]
  obtain ⟨vm', hW', X', st⟩ := X.outThrough hlocks q (g := F0 m pc ls rest) rfl rfl rfl (cell := ce) (by rw [hT]; exact hcell) (by rw [hv]; rfl)
    (by obtain ⟨k9, h9, -⟩ := Vm.findClass_spec hcl; exact ⟨k9, h9⟩) (fun z hz => by
      rcases hpass z hz with h | ⟨hz0, nm, hl1, hn1⟩
      · exact Or.inl h
      · obtain ⟨c6, hc6, hcl6⟩ := Cond.classLink_spec hown hl1 e.platform hpl
        obtain ⟨a8, b8, h1, h2, h3⟩ := hn1
        cases Option.some.inj (h1.symm.trans hcl)
        cases Option.some.inj (h2.symm.trans hc6)
        exact Or.inr ⟨hz0, _, hcl6, h3⟩)
  obtain ⟨g₀, hfr⟩ := X'.frames_eq
  have hcell9 : ((T.setVm vm').setFrames (.throwing q :: below)).heap[q]? = some ce := by
    show T.heap[q]? = some ce
    rw [hT]; exact hcell
  have hend : Ended ((T.setVm vm').setFrames (.throwing q :: below)) below (.threw q) := State.frames_setFrames _ (State.cur_lt_of_frames hfr)
  refine ⟨(T.setVm vm').setFrames (.throwing q :: below), ?_, .threw q, X'.here.running, hend, Or.inr ⟨q, rfl, E, ce, locs, hx _ hT (X'.ends _).1.alike, hcell9, hv, hcl, (X'.ends _).1, (X'.ends _).2.mono hc hs, hf⟩⟩
  rw [X.pushThrowing_eq]
  exact st
/-- a thing of a world lies in the heap -/
theorem vx_lt {D : va_G} {cl : List vw_C} {ws : va_W} {H1 : Heap} (h : va_P D cl ws H1) {k : Nat} {q : Nat × va_E} (hk : ws[k]? = some q) : q.1 < H1.size := (h k q hk).lt
end VXS
/-! ===== END ===== -/
/-! ===== BEGIN methods with a table of their own: called by a name, returning or throwing ===== -/
section VXH
/-! vx_backW, vx_callVX, vx_callSX, vx_callVW, vx_runVW, vx_runVX, vx_runSX, vx_ofWH follow the same proofs as their sisters above (Free/Laws.lean, Shelf42/LK1.lean); vx_outP calls Shelf42/NT130.lean (outThrough). -/
section
variable {l : Launch} {R : Room} {p : Program} {e : Env} {below : List Frame} {s : State} {sargs : Array Value} {y : MethodName} {len W9 : Nat}
theorem vx_backW {ws : List Cond} {rm : Room} {Pc : Array Value → State → Prop} {Qc : Array Value → State → Outcome → State → Prop} {XC : String → State → State → Prop} {mc ms : Nat} {free : Addr → Prop} {bytes : ByteArray} {maxL : Nat} {ret : Option FieldType} {hh : List (Nat × Nat × Nat × Nat)}
    (hM : vx_Met l y ws rm Pc Qc XC mc ms free) (hblind : FrameBlind Pc) (hrc : rm.cells = mc) (hrs : rm.slots = ms)
    (hframes : rm.frames + 1 ≤ R.frames) (hlocals : W9 + (maxL + 11) + rm.locals ≤ R.locals)
    (hws : ∀ w ∈ ws, ∀ a' U, s.WarmedH U.vm → w.before a' U = true) (hcode : Cond.codeWith y bytes maxL ret hh ∈ ws) (hinit : ∀ a' U, s.WarmedH U.vm → (Cond.initialized y.cls).before a' U = true) :
    vx_Back l R p e below s sargs y len W9 (PreOf R mc ms Pc) (PostOf Qc mc ms free) (vx_Post XC mc ms free) := by
  intro m meth c A g ig mk a X hg hsize hdg hW hn hp
  have h1 : (headSpec ws rm).pre.before a A.U = true := atoms_intro fun w hw => hws w hw _ _ X.warmed
  have h2 : (Cond.codeWith y bytes maxL ret hh).before a A.U = true := hws _ hcode _ _ X.warmed
  have h3 : (Cond.initialized y.cls).before a A.U = true := hinit _ _ X.warmed
  have h4 : A.cells + (headSpec ws rm).room.cells ≤ R.cells := by rw [show (headSpec ws rm).room.cells = mc from hrc]; exact hp.1
  have h5 : A.slots + (headSpec ws rm).room.slots ≤ R.slots := by rw [show (headSpec ws rm).room.slots = ms from hrs]; exact hp.2.1
  have hPc : Pc a (A.U.calling g mk a) := hblind _ _ _ _ hp.2.2
  obtain ⟨U, Ls, c0, s0⟩ := A
  dsimp only [Pt.U, Pt.locs, Pt.cells, Pt.slots] at h1 h2 h3 h4 h5 X hn hPc ⊢
  obtain ⟨m9, methY, cY, hn9, hmY, hcY, -, hlY, -⟩ := Cond.codeWith_spec h2
  cases Option.some.inj (hn9.symm.trans hn)
  obtain ⟨kY, hkY, -⟩ := className_of_methodNamed hn
  have hinitY : kY.init = .initialized := Cond.initialized_spec (findClass_of_methodNamed hn) hkY h3
  have h : At U g.method c below := by rw [hg]; exact X.here
  have hlocals9 : W9 + (maxL + 11) + (headSpec ws rm).room.locals ≤ R.locals := hlocals
  have happ : (headSpec ws rm).appliesLoose y e.platform (U.calling g mk a) = true :=
    Spec.appliesLoose_calling (g := g) h hdg hn hkY hinitY
      (X.room_calling (g := g) (R' := (headSpec ws rm).room) hsize hmY hcY hframes (by rw [hlY]; omega) h4 h5) h1
  obtain ⟨mid, hmid⟩ := h.above
  have hfr : (U.setTop g).frames = (.java g :: mid) ++ below := by rw [State.frames_setTop' g h.top, hmid]; rfl
  obtain ⟨o, s₂, hsteps, -, hend, hq⟩ := Steps.callFree hM p X.admits X.cas X.clock (acts := []) hfr happ hPc trivial
  have hq' : vx_Q Qc XC mc ms free a (U.calling g mk a) o s₂ := hq
  rw [State.frames_setTop' g h.top] at hend
  obtain ⟨g₀, hg0⟩ := Option.isSome_iff_exists.mp h.top
  obtain ⟨r, hr⟩ := State.topJava?_eq_some.mp hg0
  have hr' : (({ U with heap := s₂.heap, slotsUsed := s₂.slotsUsed } : State).setVm s₂.vm).frames = .java g₀ :: r := hr
  rcases hq' with ⟨hqc, L, hfe, hL⟩ | ⟨q, rfl, E, ce, L, hx, hce, hcv, hcl, hW₂, hsm, hL⟩
  · obtain ⟨⟨v, rfl⟩, hW₂, e2, q2, q3, q4, q5, q6⟩ := id hfe
    have e3 : s₂ = ({ (U.calling g mk a).setFrames s₂.frames with heap := s₂.heap, slotsUsed := s₂.slotsUsed } : State).setVm s₂.vm := by
      have : s₂ = ({ s₂ with vm := (U.calling g mk a).vm } : State).setVm s₂.vm := rfl
      rw [e2] at this
      exact this
    obtain ⟨c₂, i₂, len₂, hc₂, hd₂, hf₂⟩ := hend
    have hW' : U.WarmedH s₂.vm := hW₂
    have hcc : c₂ = c := by
      have h1 : s₂.code? g.method = U.code? g.method := by
        rw [State.code?_eq, State.code?_eq, hW'.alike.method?]
      exact Option.some.inj (hc₂.symm.trans (h1.trans h.code))
    subst hcc
    have hlen : len₂ = len := by rw [hdg] at hd₂; cases hd₂; rfl
    subst hlen
    have hs₂ : s₂ = (({ U with heap := s₂.heap, slotsUsed := s₂.slotsUsed } : State).setVm s₂.vm).setTop { g with pc := g.pc + len₂, stack := v.toList ++ g.stack } := by
      refine e3.trans ?_
      rw [hf₂, State.calling_eq h.top, State.setFrames_setFrames, State.setTop_of_frames _ hr', hr]
      rfl
    have hsame : U.sameButNew ({ U with heap := s₂.heap, slotsUsed := s₂.slotsUsed } : State) L mc ms := by
      refine ⟨?_, q2, q3, q4, q5, q6⟩
      obtain ⟨t, ht, -⟩ := State.frames_cons hr
      show ({ U with heap := s₂.heap, slotsUsed := s₂.slotsUsed } : State) = { U.setFrames U.frames with heap := s₂.heap, slotsUsed := s₂.slotsUsed }
      rw [State.setFrames_self ht]
    subst hg
    refine Or.inl ⟨v, ⟨(({ U with heap := s₂.heap, slotsUsed := s₂.slotsUsed } : State).setVm s₂.vm), Ls ++ L, c0 + mc, s0 + ms⟩,
      ⟨X.admits, X.cas, X.clock, X.frames, X.room, X.hears, X.method, X.code, (X.here.setHeapUsed s₂.heap s₂.slotsUsed).setVm hW'.alike, X.tail, State.WarmedH.trans X.warmed hW', X.limits, X.bytes, X.same.trans (hsame.setVm s.vm)⟩,
      ⟨g, mk, s₂, L, rfl, rfl, hqc, rfl, hL, rfl, rfl⟩, ?_⟩
    show Steps p.tables e below _ ((({ U with heap := s₂.heap, slotsUsed := s₂.slotsUsed } : State).setVm s₂.vm).setTop { g with pc := g.pc + len₂, stack := v.toList ++ g.stack })
    rw [← hs₂]
    exact hsteps
  · obtain ⟨e2, q2, q3, q4, q5, q6⟩ := id hsm
    have e3 : s₂ = ({ (U.calling g mk a).setFrames s₂.frames with heap := s₂.heap, slotsUsed := s₂.slotsUsed } : State).setVm s₂.vm := by
      have : s₂ = ({ s₂ with vm := (U.calling g mk a).vm } : State).setVm s₂.vm := rfl
      rw [e2] at this
      exact this
    have hf₂ : s₂.frames = .throwing q :: .java g :: U.frames.tail := hend
    have hW' : U.WarmedH s₂.vm := hW₂
    have hs₂ : s₂ = ((({ U with heap := s₂.heap, slotsUsed := s₂.slotsUsed } : State).setVm s₂.vm).setTop g).pushFrame (.throwing q) := by
      refine e3.trans ?_
      rw [hf₂, State.calling_eq h.top, State.setFrames_setFrames, State.pushFrame, State.frames_setTop _ hr', State.setTop_of_frames _ hr', State.setFrames_setFrames, hr]
      rfl
    have hsame : U.sameButNew ({ U with heap := s₂.heap, slotsUsed := s₂.slotsUsed } : State) L mc ms := by
      refine ⟨?_, q2, q3, q4, q5, q6⟩
      obtain ⟨t, ht, -⟩ := State.frames_cons hr
      show ({ U with heap := s₂.heap, slotsUsed := s₂.slotsUsed } : State) = { U.setFrames U.frames with heap := s₂.heap, slotsUsed := s₂.slotsUsed }
      rw [State.setFrames_self ht]
    subst hg
    refine Or.inr ⟨q, ⟨(({ U with heap := s₂.heap, slotsUsed := s₂.slotsUsed } : State).setVm s₂.vm), Ls ++ L, c0 + mc, s0 + ms⟩,
      ⟨X.admits, X.cas, X.clock, X.frames, X.room, X.hears, X.method, X.code, (X.here.setHeapUsed s₂.heap s₂.slotsUsed).setVm hW'.alike, X.tail, State.WarmedH.trans X.warmed hW', X.limits, X.bytes, X.same.trans (hsame.setVm s.vm)⟩,
      ⟨g, mk, s₂, L, E, ce, rfl, rfl, hx, hce, hcv, hcl, rfl, hL, rfl, rfl⟩, ?_⟩
    show Steps p.tables e below _ (((({ U with heap := s₂.heap, slotsUsed := s₂.slotsUsed } : State).setVm s₂.vm).setTop g).pushFrame (.throwing q))
    rw [← hs₂]
    exact hsteps
end
variable {p : Program} {l : Launch} {e : Env} {R : Room} {s : State} {m : MethodId} {args : Array Value} {below : List Frame} {meth : Method} {c : Code} {T : State} {H : Heap} {locs : List Loc} {cells slots : Nat}
theorem vx_callVX (X : Stand p l e R s m args below meth c T locs cells slots) (hexec : p.tables.exec = Jvm.exec) {own C : String} {index : Nat} {y : MethodName} {bytes : ByteArray} {maxL : Nat} {ret : Option FieldType} {hh : List (Nat × Nat × Nat × Nat)}
    (hown : s.vm.findClass own = some m.cls) (hlink : (Cond.methodLink own index y).before args s = true) (hinst : (Cond.instanceMethod y).before args s = true) (hsel : (Cond.selects C y y).before args s = true)
    (hcode : (Cond.codeWith y bytes maxL ret hh).before args s = true) (hy : y.cls ≠ "java/lang/invoke/MethodHandle" ∧ y.cls ≠ "java/lang/invoke/VarHandle")
    {W9 : Nat} {Pre : Pt → Array Value → Prop} {Post : Pt → Array Value → Option Value → Pt → Prop} {PostX : Pt → Array Value → Addr → Pt → Prop} (hK : vx_Back l R p e below s args y 3 W9 Pre Post PostX)
    {b : Addr} {cellB : Cell} (hcell : T.heap[b]? = some cellB) (hobj : cellB.vm.isStatics = false) (hcls : s.vm.findClass C = some cellB.cls)
    {g : JFrame} (hg : g.method = m) (hsize : g.locals.size = c.maxLocals) {argsL rest : List Value} (hlen : ∀ sig, parseMethodDescriptor y.desc = some sig → argsL.length = sig.parameters.length)
    (hstack : g.stack = argsL.reverse ++ .ref b :: rest) (hW : 2 * g.monitorRoom + (rest.map fun v => v.category).sum ≤ W9) (hdg : decode c.code g.pc = .ok (.invokevirtual index, 3))
    (hpre : ∀ vm₁, s.WarmedH vm₁ → Pre ⟨T.setVm vm₁, locs, cells, slots⟩ (Value.ref b :: argsL).toArray) :
    (∃ (v : Option Value) (vm₁ : Vm) (B : Pt), s.WarmedH vm₁ ∧ Stand p l e R s m args below meth c B.U B.locs B.cells B.slots ∧ Post ⟨T.setVm vm₁, locs, cells, slots⟩ (Value.ref b :: argsL).toArray v B ∧
      ∀ target, Steps p.tables e below (B.U.setTop { g with pc := g.pc + 3, stack := v.toList ++ rest }) target → Steps p.tables e below (T.setTop g) target) ∨
    (∃ (q : Addr) (vm₁ : Vm) (B : Pt), s.WarmedH vm₁ ∧ Stand p l e R s m args below meth c B.U B.locs B.cells B.slots ∧ PostX ⟨T.setVm vm₁, locs, cells, slots⟩ (Value.ref b :: argsL).toArray q B ∧
      Steps p.tables e below (T.setTop g) ((B.U.setTop { g with stack := rest }).pushFrame (.throwing q))) := by
  obtain ⟨mk, methM, hnamed, hmethM, hstM, habM⟩ := Cond.instanceMethod_spec hinst
  obtain ⟨m8, methM', cM, hn8, hmethM', -, -, -, -, -, -, hsigM⟩ := Cond.codeWith_spec hcode
  cases Option.some.inj (hn8.symm.trans hnamed)
  cases hmethM.symm.trans hmethM'
  obtain ⟨c2, r2, m2, q1, q2, q3, q4, kP, hkP, hkPi⟩ := Cond.selects_spec hsel
  cases hcls.symm.trans q1
  cases (State.methodFound?_of_named hnamed hy).symm.trans q2
  cases hnamed.symm.trans q3
  have hselP : selectMethod e.platform s.vm cellB.cls mk = .method mk := by rw [Launch.admits_selectMethod X.admits]; exact q4
  obtain ⟨vm₁, X₁, hstep₁⟩ := X.invokevirtual hexec hown hlink hnamed hmethM hstM hkP hkPi hy (a := b) (cell := cellB) hcell
    (fun z h => by rw [h] at hobj; cases hobj) hselP hmethM habM hkP hkPi (g := g) hg (argsL := argsL) (rest := rest) (hlen _ hsigM) hstack hdg
  rcases hK m meth c ⟨T.setVm vm₁, locs, cells, slots⟩ { g with stack := rest } (.invokevirtual index) mk (Value.ref b :: argsL).toArray X₁ hg hsize hdg hW (X₁.named hnamed) (hpre vm₁ X₁.warmed) with ⟨v, B, X', hpost, hsteps⟩ | ⟨q, B, X', hpost, hsteps⟩
  · exact Or.inl ⟨v, vm₁, B, X₁.warmed, X', hpost, fun target h => hstep₁ _ fun acts => by rw [doInvoke_state]; exact hsteps.trans h⟩
  · exact Or.inr ⟨q, vm₁, B, X₁.warmed, X', hpost, hstep₁ _ fun acts => by rw [doInvoke_state]; exact hsteps⟩
theorem vx_callSX (X : Stand p l e R s m args below meth c T locs cells slots) (hexec : p.tables.exec = Jvm.exec) {own : String} {index : Nat} {y : MethodName} {bytes : ByteArray} {maxL : Nat} {ret : Option FieldType} {hh : List (Nat × Nat × Nat × Nat)}
    (hown : s.vm.findClass own = some m.cls) (hlink : (Cond.methodLink own index y).before args s = true) (hstat : (Cond.static y).before args s = true) (hinit : (Cond.initialized y.cls).before args s = true)
    (hcode : (Cond.codeWith y bytes maxL ret hh).before args s = true) (hy : y.cls ≠ "java/lang/invoke/MethodHandle" ∧ y.cls ≠ "java/lang/invoke/VarHandle")
    {W9 : Nat} {Pre : Pt → Array Value → Prop} {Post : Pt → Array Value → Option Value → Pt → Prop} {PostX : Pt → Array Value → Addr → Pt → Prop} (hK : vx_Back l R p e below s args y 3 W9 Pre Post PostX)
    {g : JFrame} (hg : g.method = m) (hsize : g.locals.size = c.maxLocals) {argsL rest : List Value} (hlen : ∀ sig, parseMethodDescriptor y.desc = some sig → argsL.length = sig.parameters.length)
    (hstack : g.stack = argsL.reverse ++ rest) (hW : 2 * g.monitorRoom + (rest.map fun v => v.category).sum ≤ W9) (hdg : decode c.code g.pc = .ok (.invokestatic index, 3))
    (hpre : ∀ vm₁, s.WarmedH vm₁ → Pre ⟨T.setVm vm₁, locs, cells, slots⟩ argsL.toArray) :
    (∃ (v : Option Value) (vm₁ : Vm) (B : Pt), s.WarmedH vm₁ ∧ Stand p l e R s m args below meth c B.U B.locs B.cells B.slots ∧ Post ⟨T.setVm vm₁, locs, cells, slots⟩ argsL.toArray v B ∧
      ∀ target, Steps p.tables e below (B.U.setTop { g with pc := g.pc + 3, stack := v.toList ++ rest }) target → Steps p.tables e below (T.setTop g) target) ∨
    (∃ (q : Addr) (vm₁ : Vm) (B : Pt), s.WarmedH vm₁ ∧ Stand p l e R s m args below meth c B.U B.locs B.cells B.slots ∧ PostX ⟨T.setVm vm₁, locs, cells, slots⟩ argsL.toArray q B ∧
      Steps p.tables e below (T.setTop g) ((B.U.setTop { g with stack := rest }).pushFrame (.throwing q))) := by
  obtain ⟨mk, methM, cM, hnamed, hmethM, -, -, -, -, -, -, hsigM⟩ := Cond.codeWith_spec hcode
  have hstatic : methM.isStatic = true := Cond.static_spec hnamed hmethM hstat
  obtain ⟨kP, hkP, -⟩ := className_of_methodNamed hnamed
  have hinitP : kP.init = .initialized := Cond.initialized_spec (findClass_of_methodNamed hnamed) hkP hinit
  obtain ⟨vm₁, X₁, hstep₁⟩ := X.invokestatic hexec hown hlink hnamed hmethM hstatic hkP hinitP hy (g := g) hg (argsL := argsL) (rest := rest) (hlen _ hsigM) hstack hdg
  rcases hK m meth c ⟨T.setVm vm₁, locs, cells, slots⟩ { g with stack := rest } (.invokestatic index) mk argsL.toArray X₁ hg hsize hdg hW (X₁.named hnamed) (hpre vm₁ X₁.warmed) with ⟨v, B, X', hpost, hsteps⟩ | ⟨q, B, X', hpost, hsteps⟩
  · exact Or.inl ⟨v, vm₁, B, X₁.warmed, X', hpost, fun target h => hstep₁ _ fun acts => by rw [doInvoke_state]; exact hsteps.trans h⟩
  · exact Or.inr ⟨q, vm₁, B, X₁.warmed, X', hpost, hstep₁ _ fun acts => by rw [doInvoke_state]; exact hsteps⟩
theorem vx_callVW (X : Stand p l e R s m args below meth c T locs cells slots) (hexec : p.tables.exec = Jvm.exec) {own C : String} {index : Nat} {y : MethodName} {bytes : ByteArray} {maxL : Nat} {ret : Option FieldType} {hh : List (Nat × Nat × Nat × Nat)}
    (hown : s.vm.findClass own = some m.cls) (hlink : (Cond.methodLink own index y).before args s = true) (hinst : (Cond.instanceMethod y).before args s = true) (hsel : (Cond.selects C y y).before args s = true)
    (hcode : (Cond.codeWith y bytes maxL ret hh).before args s = true) (hy : y.cls ≠ "java/lang/invoke/MethodHandle" ∧ y.cls ≠ "java/lang/invoke/VarHandle")
    {W9 : Nat} {Pre : Pt → Array Value → Prop} {Post : Pt → Array Value → Option Value → Pt → Prop} (hK : Back l R p e below s args y 3 W9 Pre Post)
    {b : Addr} {cellB : Cell} (hcell : T.heap[b]? = some cellB) (hobj : cellB.vm.isStatics = false) (hcls : s.vm.findClass C = some cellB.cls)
    {g : JFrame} (hg : g.method = m) (hsize : g.locals.size = c.maxLocals) {argsL rest : List Value} (hlen : ∀ sig, parseMethodDescriptor y.desc = some sig → argsL.length = sig.parameters.length)
    (hstack : g.stack = argsL.reverse ++ .ref b :: rest) (hW : 2 * g.monitorRoom + (rest.map fun v => v.category).sum ≤ W9) (hdg : decode c.code g.pc = .ok (.invokevirtual index, 3))
    (hpre : ∀ vm₁, s.WarmedH vm₁ → Pre ⟨T.setVm vm₁, locs, cells, slots⟩ (Value.ref b :: argsL).toArray) :
    ∃ (v : Option Value) (vm₁ : Vm) (B : Pt), s.WarmedH vm₁ ∧ Stand p l e R s m args below meth c B.U B.locs B.cells B.slots ∧ Post ⟨T.setVm vm₁, locs, cells, slots⟩ (Value.ref b :: argsL).toArray v B ∧
      ∀ target, Steps p.tables e below (B.U.setTop { g with pc := g.pc + 3, stack := v.toList ++ rest }) target → Steps p.tables e below (T.setTop g) target := by
  obtain ⟨mk, methM, hnamed, hmethM, hstM, habM⟩ := Cond.instanceMethod_spec hinst
  obtain ⟨m8, methM', cM, hn8, hmethM', -, -, -, -, -, -, hsigM⟩ := Cond.codeWith_spec hcode
  cases Option.some.inj (hn8.symm.trans hnamed)
  cases hmethM.symm.trans hmethM'
  obtain ⟨c2, r2, m2, q1, q2, q3, q4, kP, hkP, hkPi⟩ := Cond.selects_spec hsel
  cases hcls.symm.trans q1
  cases (State.methodFound?_of_named hnamed hy).symm.trans q2
  cases hnamed.symm.trans q3
  have hselP : selectMethod e.platform s.vm cellB.cls mk = .method mk := by rw [Launch.admits_selectMethod X.admits]; exact q4
  obtain ⟨vm₁, X₁, hstep₁⟩ := X.invokevirtual hexec hown hlink hnamed hmethM hstM hkP hkPi hy (a := b) (cell := cellB) hcell
    (fun z h => by rw [h] at hobj; cases hobj) hselP hmethM habM hkP hkPi (g := g) hg (argsL := argsL) (rest := rest) (hlen _ hsigM) hstack hdg
  obtain ⟨v, B, X', hpost, hsteps⟩ := hK m meth c ⟨T.setVm vm₁, locs, cells, slots⟩ { g with stack := rest } (.invokevirtual index) mk (Value.ref b :: argsL).toArray X₁ hg hsize hdg hW (X₁.named hnamed) (hpre vm₁ X₁.warmed)
  exact ⟨v, vm₁, B, X₁.warmed, X', hpost, fun target h => hstep₁ _ fun acts => by rw [doInvoke_state]; exact hsteps.trans h⟩
abbrev vx_CVW (R : Room) (s : State) (args : Array Value) (own C : String) (index : Nat) (y : MethodName) (bytes : ByteArray) (maxL : Nat) (ret : Option FieldType) (hh : List (Nat × Nat × Nat × Nat)) (ws : List Cond) (rm : Room) (mc ms n : Nat) : Prop :=
  (rm.cells = mc ∧ rm.slots = ms ∧ rm.frames + 1 ≤ R.frames ∧ 8 + (maxL + 11) + rm.locals ≤ R.locals ∧ (∀ w ∈ ws, ∀ (a' : Array Value) (U : State), s.WarmedH U.vm → w.before a' U = true) ∧ Cond.codeWith y bytes maxL ret hh ∈ ws) ∧
  (Cond.codeWith y bytes maxL ret hh).before args s = true ∧ (Cond.initialized y.cls).before args s = true ∧ (y.cls ≠ "java/lang/invoke/MethodHandle" ∧ y.cls ≠ "java/lang/invoke/VarHandle") ∧
  (∀ sig, parseMethodDescriptor y.desc = some sig → n = sig.parameters.length) ∧ (Cond.methodLink own index y).before args s = true ∧ (Cond.instanceMethod y).before args s = true ∧ (Cond.selects C y y).before args s = true
theorem vx_cwVW {own C : String} {index maxL mc ms : Nat} {y : MethodName} {bytes : ByteArray} {ret : Option FieldType} {hh : List (Nat × Nat × Nat × Nat)} {Ts ws ws' : List Cond} {rm : Room} (n : Nat) (ht : ∀ w ∈ Ts, w.before args s = true) (hT : GoodIn Ts (wsV own index C y ws)) (hw : ws = Cond.codeWith y bytes maxL ret hh :: ws') (hrc : rm.cells = mc) (hrs : rm.slots = ms)
    (hd : y.cls = C ∧ y.cls ≠ "java/lang/invoke/MethodHandle" ∧ y.cls ≠ "java/lang/invoke/VarHandle" ∧ (parseMethodDescriptor y.desc).map (fun d => d.parameters.length) = some n) (hR : rm.frames + 1 ≤ R.frames ∧ 8 + (maxL + 11) + rm.locals ≤ R.locals) :
    vx_CVW R s args own C index y bytes maxL ret hh ws rm mc ms n := by
  obtain ⟨hC, hd⟩ := hd
  subst hC
  have ok : ∀ w ∈ wsV own index y.cls y ws, w.before args s = true := fun w h => ht w (hT w h).1
  have hG : GoodIn Ts ws := fun w h => hT w (by unfold wsV; exact List.mem_append_right _ h)
  have hc : Cond.codeWith y bytes maxL ret hh ∈ ws := by rw [hw]; exact List.mem_cons_self
  refine ⟨⟨hrc, hrs, hR.1, hR.2, pay_in ht hG, hc⟩, ht _ (hG _ hc).1, ok _ (by simp [wsV]), ⟨hd.1, hd.2.1⟩, fun sig h => ?_, ok _ (by simp [wsV]), ok _ (by simp [wsV]), ok _ (by simp [wsV])⟩
  have h2 := hd.2.2
  rw [h] at h2
  exact (Option.some.inj h2).symm
theorem vx_runVW {y : MethodName} {bytes cc : ByteArray} {maxL nL mc ms n index : Nat} {ret : Option FieldType} {hh : List (Nat × Nat × Nat × Nat)} {ws : List Cond} {rm : Room} {Pc : Array Value → State → Prop} {Qc : Array Value → State → Outcome → State → Prop} {free : Addr → Prop} {Ts : List Cond} {own C : String} {b : Addr} {As rest : List Value} {g : JFrame}
    (S : CallFix p m c cc nL s args Ts own) (hM : Met l y ws rm Pc Qc mc ms free) (cw : vx_CVW R s args own C index y bytes maxL ret hh ws rm mc ms n) (hp : PreV s H C b Pc As)
    (hg : g.method = m) (hn : As.length = n) (hsize : g.locals.size = nL) (hstack : g.stack = As.reverse ++ .ref b :: rest) (hW : 2 * g.monitorRoom + (rest.map fun v => v.category).sum ≤ 8) (hdg : decode cc g.pc = .ok (.invokevirtual index, 3)) (hf : cells + mc ≤ R.cells ∧ slots + ms ≤ R.slots) :
    va_Run p l e R s m args below meth c H locs cells slots mc ms g rest (Qc (Value.ref b :: As).toArray) free := by
  obtain ⟨⟨hrc, hrs, hfr, hlo, hws, hcw⟩, hcode, hini, hy, hlen, hl, hin, hse⟩ := cw
  have hK : Back l R p e below s args y 3 8 (PreOf R mc ms Pc) (PostOf Qc mc ms free) := va_backW (hh := hh) (bytes := bytes) (maxL := maxL) (ret := ret) hM hp.1 hrc hrs hfr hlo hws hcw (fun a' U hW => word_at hW (Or.inl (by first | rfl | simp [Cond.onTables, Cond.keeps, Cond.steady])) hini)
  obtain ⟨hx, hb, hml, ho, -⟩ := S
  obtain ⟨-, ⟨cellB, hcB, hoB, hclB⟩, hPc⟩ := hp
  intro T hT X
  obtain ⟨v, vm₁, ⟨U', l2, c2, s2⟩, hW₁, X', ⟨g', mk, t, L, e1, e2, hq, h1, hL, h2, h3⟩, st⟩ := vx_callVW X hx (C := C) (hh := hh) (bytes := bytes) (maxL := maxL) (ret := ret) ho hl hin hse hcode hy hK (by rw [hT]; exact hcB) hoB hclB hg (hsize.trans hml.symm) (argsL := As) (rest := rest) (fun sig h => hn.trans (hlen sig h)) hstack hW (by rw [hb]; exact hdg)
    (fun vm₁ hW₁ => ⟨hf.1, hf.2, hPc (T.setVm vm₁) hT hW₁⟩)
  dsimp only [Pt.U, Pt.locs, Pt.cells, Pt.slots] at X' e1 e2 h1 h2 h3 st
  subst h1; subst h2; subst h3
  exact ⟨v, (T.setVm vm₁).calling g' mk (Value.ref b :: As).toArray, t, U', L, hT, X', hL, e1, e2, hq, st⟩
section
variable {y : MethodName} {bytes cc : ByteArray} {maxL nL mc ms n index : Nat} {ret : Option FieldType} {ws : List Cond} {rm : Room} {Pc : Array Value → State → Prop} {Qc : Array Value → State → Outcome → State → Prop} {XC : String → State → State → Prop} {free : Addr → Prop} {Ts : List Cond} {own C : String} {b : Addr} {As rest : List Value} {g : JFrame}
theorem vx_runVX {hh : List (Nat × Nat × Nat × Nat)} (S : CallFix p m c cc nL s args Ts own) (hM : vx_Met l y ws rm Pc Qc XC mc ms free) (cw : vx_CVW R s args own C index y bytes maxL ret hh ws rm mc ms n) (hp : PreV s H C b Pc As)
    (hg : g.method = m) (hn : As.length = n) (hsize : g.locals.size = nL) (hstack : g.stack = As.reverse ++ .ref b :: rest) (hW : 2 * g.monitorRoom + (rest.map fun v => v.category).sum ≤ 8) (hdg : decode cc g.pc = .ok (.invokevirtual index, 3)) (hf : cells + mc ≤ R.cells ∧ slots + ms ≤ R.slots) :
    vx_Run p l e R s m args below meth c H locs cells slots mc ms g rest (Qc (Value.ref b :: As).toArray) XC free := by
  obtain ⟨⟨hrc, hrs, hfr, hlo, hws, hcw⟩, hcode, hini, hy, hlen, hl, hin, hse⟩ := cw
  have hK : vx_Back l R p e below s args y 3 8 (PreOf R mc ms Pc) (PostOf Qc mc ms free) (vx_Post XC mc ms free) := vx_backW (hh := hh) (bytes := bytes) (maxL := maxL) (ret := ret) hM hp.1 hrc hrs hfr hlo hws hcw (fun a' U hW => word_at hW (Or.inl (by first | rfl | simp [Cond.onTables, Cond.keeps, Cond.steady])) hini)
  obtain ⟨hx, hb, hml, ho, -⟩ := S
  obtain ⟨-, ⟨cellB, hcB, hoB, hclB⟩, hPc⟩ := hp
  intro T hT X
  rcases vx_callVX X hx (C := C) (hh := hh) (bytes := bytes) (maxL := maxL) (ret := ret) ho hl hin hse hcode hy hK (by rw [hT]; exact hcB) hoB hclB hg (hsize.trans hml.symm) (argsL := As) (rest := rest) (fun sig h => hn.trans (hlen sig h)) hstack hW (by rw [hb]; exact hdg)
    (fun vm₁ hW₁ => ⟨hf.1, hf.2, hPc (T.setVm vm₁) hT hW₁⟩) with ⟨v, vm₁, ⟨U', l2, c2, s2⟩, hW₁, X', ⟨g', mk, t, L, e1, e2, hq, h1, hL, h2, h3⟩, st⟩ | ⟨q, vm₁, ⟨U', l2, c2, s2⟩, hW₁, X', ⟨g', mk, t, L, E, ce, e1, e2, hq, hce, hcv, hcl, h1, hL, h2, h3⟩, st⟩
  · dsimp only [Pt.U, Pt.locs, Pt.cells, Pt.slots] at X' e1 e2 h1 h2 h3 st
    subst h1; subst h2; subst h3
    exact Or.inl ⟨v, (T.setVm vm₁).calling g' mk (Value.ref b :: As).toArray, t, U', L, hT, X', hL, e1, e2, hq, st⟩
  · dsimp only [Pt.U, Pt.locs, Pt.cells, Pt.slots] at X' e1 e2 h1 h2 h3 st hcl
    subst h1; subst h2; subst h3
    exact Or.inr ⟨q, (T.setVm vm₁).calling g' mk (Value.ref b :: As).toArray, t, U', L, E, ce, hT, X', hL, e1, e2, hq, hce, hcv, vx_cls hW₁ hcl, st⟩
theorem vx_runSX {hh : List (Nat × Nat × Nat × Nat)} (S : CallFix p m c cc nL s args Ts own) (hM : vx_Met l y ws rm Pc Qc XC mc ms free) (cw : vx_CSW R s args own index y bytes maxL ret hh ws rm mc ms n) (hp : PreS s H Pc As)
    (hg : g.method = m) (hn : As.length = n) (hsize : g.locals.size = nL) (hstack : g.stack = As.reverse ++ rest) (hW : 2 * g.monitorRoom + (rest.map fun v => v.category).sum ≤ 8) (hdg : decode cc g.pc = .ok (.invokestatic index, 3)) (hf : cells + mc ≤ R.cells ∧ slots + ms ≤ R.slots) :
    vx_Run p l e R s m args below meth c H locs cells slots mc ms g rest (Qc As.toArray) XC free := by
  obtain ⟨⟨hrc, hrs, hfr, hlo, hws, hcw⟩, hcode, hini, hy, hlen, hl, hstt⟩ := cw
  have hK : vx_Back l R p e below s args y 3 8 (PreOf R mc ms Pc) (PostOf Qc mc ms free) (vx_Post XC mc ms free) := vx_backW (hh := hh) (bytes := bytes) (maxL := maxL) (ret := ret) hM hp.1 hrc hrs hfr hlo hws hcw (fun a' U hW => word_at hW (Or.inl (by first | rfl | simp [Cond.onTables, Cond.keeps, Cond.steady])) hini)
  obtain ⟨hx, hb, hml, ho, -⟩ := S
  intro T hT X
  rcases vx_callSX X hx (hh := hh) (bytes := bytes) (maxL := maxL) (ret := ret) ho hl hstt hini hcode hy hK hg (hsize.trans hml.symm) (argsL := As) (rest := rest) (fun sig h => hn.trans (hlen sig h)) hstack hW (by rw [hb]; exact hdg)
    (fun vm₁ hW₁ => ⟨hf.1, hf.2, hp.2 (T.setVm vm₁) hT hW₁⟩) with ⟨v, vm₁, ⟨U', l2, c2, s2⟩, hW₁, X', ⟨g', mk, t, L, e1, e2, hq, h1, hL, h2, h3⟩, st⟩ | ⟨q, vm₁, ⟨U', l2, c2, s2⟩, hW₁, X', ⟨g', mk, t, L, E, ce, e1, e2, hq, hce, hcv, hcl, h1, hL, h2, h3⟩, st⟩
  · dsimp only [Pt.U, Pt.locs, Pt.cells, Pt.slots] at X' e1 e2 h1 h2 h3 st
    subst h1; subst h2; subst h3
    exact Or.inl ⟨v, (T.setVm vm₁).calling g' mk As.toArray, t, U', L, hT, X', hL, e1, e2, hq, st⟩
  · dsimp only [Pt.U, Pt.locs, Pt.cells, Pt.slots] at X' e1 e2 h1 h2 h3 st hcl
    subst h1; subst h2; subst h3
    exact Or.inr ⟨q, (T.setVm vm₁).calling g' mk As.toArray, t, U', L, E, ce, hT, X', hL, e1, e2, hq, hce, hcv, vx_cls hW₁ hcl, st⟩
end
end VXH
theorem vx_ofWH {l : Launch} {y : MethodName} {ws ws' : List Cond} {rm : Room} {Pc : Array Value → State → Prop} {Qc : Array Value → State → Outcome → State → Prop} {XC : String → State → State → Prop} {mc ms : Nat} {free : Addr → Prop} {cc : ByteArray} {maxL : Nat} {ret : Option FieldType} {hh : List (Nat × Nat × Nat × Nat)}
    (hy : plainName y.cls = true) (hw : ws = Cond.codeWith y cc maxL ret hh :: ws')
    (body : ∀ p e s m args below meth c s₁, BodyLoose p l y (headSpec ws rm) cc maxL ret e s m args below meth c s₁ → c.maxLocals = maxL → Pc args s →
      W p l e (headSpec ws rm).room s m args below meth c s.heap [] 0 0 (vx_MQ below Qc XC args s mc ms free) (entryFrame m args maxL)) : vx_Met l y ws rm Pc Qc XC mc ms free := by
  refine MetFree.of_bodyS (code := cc) (maxLocals := maxL) (ret := ret) hy ?_ ?_
  · intro args s m h hn
    obtain ⟨m9, meth, c, hn9, h1, h2, h3, h4, -, h5, h6, -⟩ := Cond.codeWith_spec (atoms_spec (ws := ws) h _ (by rw [hw]; exact List.mem_cons_self))
    cases hn.symm.trans hn9
    exact ⟨meth, c, h1, h2, h3, h4, h5, h6⟩
  · intro p e s m args below meth c s₁ B hml hP _
    have hh0 : s₁.heap = s.heap := by rw [B.state]; rfl
    obtain ⟨t, a1, o, b1, b2, b3⟩ := body p e s m args below meth c s₁ B hml hP s₁ hh0 (Stand.of_body B)
    exact ⟨t, o, a1, b1, b2, b3⟩
/-! ===== END ===== -/

/-! ===== BEGIN what the machine throws by itself, no traces kept ===== -/
section VXM
set_option maxHeartbeats 1000000 in
/-- the machine throws cls with the message text, no traces kept: from its note over the frame g to 'throwing' over the same frame (follows the proofs of Stand.vmThrowsMessage, Shelf/KitTracedVmS.lean, and Stand.throwsMessageColdBareV, StandMessageColdV.lean, without the step out of the frame) -/
theorem vx_vmAt {p : Program} {l : Launch} {e : Env} {R : Room} {s : State} {m₀ : MethodId} {args : Array Value} {below : List Frame} {meth : Method} {c : Code} {W : State} {locs : List Loc} {cells slots : Nat}
    (X : Stand p l e R s m₀ args below meth c W locs cells slots) (hexec : p.tables.exec = Jvm.exec) (htr : e.platform.stackTraces = false) {cls : String} {names : List String} {text : String}
    (hcls : Bundle.fit cls = true) (hnames : ∀ n ∈ names, Bundle.fit n = true) (hsoe : (cls == "java/lang/StackOverflowError") = false) (hoom : (cls == "java/lang/OutOfMemoryError") = false)
    (h : ∀ a ∈ Bundle.messageArmAtoms cls names, a.before args s = true)
    (hlocs : ∀ x ∈ locs, ∀ cell, s.heap[x.base]? = some cell → cell.vm.isStatics = false)
    (htext : (text == notModelled) = false) (hlimit : ¬ (stringBytes (stringToUtf16 text)).size > e.platform.arrayLengthLimit) (hheap : ¬ (stringBytes (stringToUtf16 text)).size * componentBytes .byte > e.platform.maxHeapBytes)
    {g : JFrame} (hg : g.method = m₀) (hsize : g.locals.size = c.maxLocals)
    (hRframes : names.length + 4 < R.frames) (hRlocals : 2 * g.monitorRoom + (g.stack.map fun v => v.category).sum + 10240 ≤ R.locals) (hshort : 13 * names.length + 55 ≤ 10240)
    (hRcells : cells + 3 ≤ R.cells) (hRslots : slots + ((stringBytes (stringToUtf16 text)).size + 4 + 6) ≤ R.slots) (hlocks : meth.locks = false) :
    ∃ (S : State) (q : Addr) (ce : Cell), (∀ target, Steps p.tables e below ((S.setTop g).pushFrame (.throwing q)) target → Steps p.tables e below ((W.setTop g).pushFrame (.throwNew cls (some text) none)) target) ∧
      Stand p l e R s m₀ args below meth c S locs (cells + 3) (slots + ((stringBytes (stringToUtf16 text)).size + 4 + 6)) ∧ S.heap[q]? = some ce ∧ s.vm.findClass cls = some ce.cls ∧ ce.vm = .none := by
  have howns : e.platform.frameOwnsMonitors = true := by rw [X.admits.platform]
  have hfin : e.platform.finalization = false := by rw [X.admits.platform]
  have hpl : e.platform.magicAccessors = ({} : Platform).magicAccessors := by rw [X.admits.platform]
  have a : ∀ x, x ∈ Bundle.messageArmAtoms cls names → x.holds args s none s [] = true := fun x hx => h x hx
  obtain ⟨T, Z0, L, -, Y⟩ := ThrowableC.of_atoms (args := args) howns hfin hpl (fun x hx => h x (by simp [Bundle.messageArmAtoms, hx]))
  obtain ⟨Z, M, LZ, LM, hnZ⟩ := Init0T.ofS_atoms (args := args) hpl L Y (fun x hx => h x (by simp [Bundle.messageArmAtoms, hx]))
  obtain ⟨P1, Ps, hlen, L1, hL, hP1m, hlink1, hlink⟩ := Bundle.chainS (args := args) hpl hnZ names cls hcls hnames (fun x hx => h x (by simp [Bundle.messageArmAtoms, hx]))
  obtain ⟨Zs, LZs, hn4, hfitv, hfitc⟩ := StringT.of_atoms (args := args) (fun x hx => h x (by simp [Bundle.messageArmAtoms, hx]))
  have hfound : s.vm.findClass cls = some P1.m.cls := findClass_of_methodNamed hP1m
  obtain ⟨c1, kX, hc1, hk, hord, -, -, hn6⟩ := Cond.instantiable_spec (a (.instantiable cls 6) (by simp [Bundle.messageArmAtoms]))
  cases Option.some.inj (hc1.symm.trans hfound)
  have hinit := Cond.initialized_spec hfound hk (a (.initialized cls) (by simp [Bundle.messageArmAtoms]))
  have hctor : kX.findMethod "<init>" "(Ljava/lang/String;)V" = some P1.m.idx := findMethod_of_methodNamed hP1m hk
  have hsel0 : selectMethod e.platform s.vm P1.m.cls T.fill0 = .method T.fill0 := by
    obtain ⟨c2, r2, m2, q1, q2, q3, q4, -⟩ := Cond.selects_spec (a (.selects cls Bundle.tFill0 Bundle.tFill0) (by simp [Bundle.messageArmAtoms]))
    cases Option.some.inj (q1.symm.trans hfound)
    cases Option.some.inj (q2.symm.trans (State.methodFound?_of_named Y.fill0 (by decide)))
    cases Option.some.inj (q3.symm.trans Y.fill0)
    rw [Launch.admits_selectMethod X.admits]; exact q4
  have hselF : selectMethod e.platform s.vm P1.m.cls T.fill = .method T.fill := by
    obtain ⟨c2, r2, m2, q1, q2, q3, q4, -⟩ := Cond.selects_spec (a (.selects cls Bundle.tFill Bundle.tFill) (by simp [Bundle.messageArmAtoms]))
    cases Option.some.inj (q1.symm.trans hfound)
    cases Option.some.inj (q2.symm.trans (State.methodFound?_of_named Y.fill (by decide)))
    cases Option.some.inj (q3.symm.trans Y.fill)
    rw [Launch.admits_selectMethod X.admits]; exact q4
  obtain ⟨cellS0, hcS0, hiss⟩ := Y.statics
  obtain ⟨u0, hu0⟩ := Cond.staticRefV Y.unassigned L.unassignedStatic L.statics hcS0 hiss (a (.isRef (.static Bundle.tN "UNASSIGNED_STACK" Bundle.steD)) (by simp [Bundle.messageArmAtoms]))
  obtain ⟨sen, hsen⟩ := Cond.staticRefV Y.sentinel L.sentinelStatic L.statics hcS0 hiss (a (.isRef (.static Bundle.tN "SUPPRESSED_SENTINEL" Bundle.listD)) (by simp [Bundle.messageArmAtoms]))
  obtain ⟨ci198, i198, fB, hk198, hg198, ha198, hsB, -, hnB, htB, hffB⟩ := Cond.ownField (t := .object "java/lang/Object") Y.found L.cls (by decide +kernel) (a (.fieldLink Bundle.tN 198 Bundle.tN "backtrace" "Ljava/lang/Object;") (by simp [Bundle.messageArmAtoms])) (a (.lays Bundle.tN Bundle.tN "backtrace" "Ljava/lang/Object;") (by simp [Bundle.messageArmAtoms])) e.platform hpl
  obtain ⟨cellS, hcS', heS, -, hkeep⟩ := X.same.2.2.2.2.2 T.aS cellS0 hcS0
  have hcellS : W.heap[T.aS]? = some cellS := hcS'
  have hout' : ∀ i, (⟨T.aS, i⟩ : Loc) ∉ locs := fun i hmem => by
    have := hlocs _ hmem cellS0 hcS0
    rw [hiss] at this; cases this
  have hknownS : cellS.vm ≠ .unknown := by
    rw [heS]; intro hu
    rw [show cellS0.vm = .unknown from hu] at hiss
    cases hiss
  have hvU : cellS.slots[T.fUnassigned.slot]? = some u0.v := by rw [hkeep _ (hout' _)]; exact hu0
  have hvSen : cellS.slots[T.fSentinel.slot]? = some sen.v := by rw [hkeep _ (hout' _)]; exact hsen
  obtain ⟨iM, hffM⟩ := Y.msg
  obtain ⟨tyC, dC, hdC, hdnC⟩ := Cond.laysAt hfound hk Y.cause (a (.lays cls Bundle.tN "cause" "Ljava/lang/Throwable;") (by simp [Bundle.messageArmAtoms]))
  obtain ⟨tyS, dS, hdS, hdnS⟩ := Cond.laysAt hfound hk Y.stack (a (.lays cls Bundle.tN "stackTrace" Bundle.steD) (by simp [Bundle.messageArmAtoms]))
  obtain ⟨tyP, dP, hdP, hdnP⟩ := Cond.laysAt hfound hk Y.supp (a (.lays cls Bundle.tN "suppressedExceptions" Bundle.listD) (by simp [Bundle.messageArmAtoms]))
  obtain ⟨tyM, dM, hdM, hdnM⟩ := Cond.laysAt hfound hk hffM (a (.lays cls Bundle.tN "detailMessage" "Ljava/lang/String;") (by simp [Bundle.messageArmAtoms]))
  obtain ⟨tyB, dB, hdB, hdnB⟩ := Cond.laysAt hfound hk hffB (a (.lays cls Bundle.tN "backtrace" "Ljava/lang/Object;") (by simp [Bundle.messageArmAtoms]))
  have bC := Cond.laysApart hdB hdC hdnB hdnC (by rw [hnB, Y.causeName]; decide)
  have bS := Cond.laysApart hdB hdS hdnB hdnS (by rw [hnB, Y.stackName]; decide)
  have bP := Cond.laysApart hdB hdP hdnB hdnP (by rw [hnB, Y.suppName]; decide)
  have hbk : ((preparedCellV T.toThrowableT (freshCell P1.m.cls kX) (W.heap.size + 2) u0 sen).withEntry W.cur).slots[fB.slot]? = some .null := by
    have := fresh_default (c := P1.m.cls) tyB
    rw [htB] at this
    simpa [preparedCellV, Cell.setSlot, Cell.withEntry, Array.getElem?_setIfInBounds, bC, bS, bP, bC.symm, bS.symm, bP.symm, defaultValue] using this
  have tkC := Takes.of_laid (v := .ref (W.heap.size + 2)) hk hord tyC (by rw [Y.causeType]; rfl)
  have tkS := Takes.of_laid (v := u0.v) hk hord tyS (by rw [Y.stackType]; exact fits_refV_array _ u0)
  have tkP := Takes.of_laid (v := sen.v) hk hord tyP (by rw [Y.suppType]; exact fits_refV_object _ sen)
  have tkM := Takes.of_laid (v := .ref (W.heap.size + 1)) hk hord tyM (by rw [Y.msgType]; rfl)
  have hskip : SkipFacts T e.platform s (fun u => u) u0 ((preparedCellV T.toThrowableT (freshCell P1.m.cls kX) (W.heap.size + 2) u0 sen).withEntry W.cur) := ⟨{ ci198 := ci198, i198 := i198, fBack := fB }, ⟨hk198, hg198, ha198, hsB⟩, hbk, fun _ _ => rfl⟩
  have h0 : At W g.method c below := by rw [hg]; exact X.here
  obtain ⟨hbeyond, hfreeW⟩ := X.vmMayThrow hsize (.throwNew cls (some text) none) (fun f hf => by cases hf) rfl hRlocals
  have hfr' : W.frames.length + Ps.length + 4 < (e.platform.stackLimits W.me).1 := by have := X.framesAbove hRframes; omega
  have hwd' : (stackUse (.java g :: W.frames.tail)).2 + 13 * Ps.length + 55 ≤ (e.platform.stackLimits W.me).2 := by have := X.stackAbove hsize (K := 13 * Ps.length + 55) (by omega); omega
  have hslots : W.slotsUsed + (stringBytes (stringToUtf16 text)).size + Zs.kS.instanceTypes.size + kX.instanceTypes.size ≤ e.platform.maxSlots := by
    have := X.slotsAbove hRslots
    rw [hn4, hn6]
    omega
  obtain ⟨vm', hW', st⟩ := Steps.vmThrowsMessageColdByV p (s₀ := s) (S := W) (g := g) h0 hexec T L Z LZ M LM X.warmed (t := W.cur) rfl Zs LZs P1 L1 Ps hL hlink1 hlink hsoe hoom hfound hk hinit hord hctor
    (Launch.admits_hotImplicitExceptions X.admits) hbeyond hfreeW htext hlimit hheap (X.cellsAbove hRcells) hslots (hfitv _) (hfitc _)
    (Nn := fun u => u) heapOnly_id (fun _ _ => rfl) (fun _ => rfl) (fun u x y => setCell_twice _ _ _ _) (fun _ => Nat.le_refl _) (cN := ((preparedCellV T.toThrowableT (freshCell P1.m.cls kX) (W.heap.size + 2) u0 sen).withEntry W.cur))
    hsel0 hcellS hknownS hvU tkS (fun _ hu => hu) (fun _ hu => hu) rfl rfl rfl (by simp [preparedCellV, Cell.setSlot, Cell.withEntry]) hskip (fun _ _ hA hW _ hroom _ hrest => L.nativeOff p htr hA hW hroom hrest) hselF hvSen tkC tkP tkM Y.objLocals rfl hfr' hwd'
  rw [plainBareV_eq T.toThrowableT (W.heap.size + 2) u0 sen (.ref (W.heap.size + 1)) W.cur rfl rfl] at st
  obtain ⟨-, -, w3, w4, -, -, -⟩ := withThrown_facts e.platform W Zs text P1.m.cls kX
  have X3 := ((X.pushed (bytesOf Zs.cB (stringToUtf16 text))).pushed (stringAt Zs.cS Zs.kS Zs.fv Zs.fc (stringToUtf16 text) W.heap.size)).pushed (freshCell P1.m.cls kX)
  rw [← withString_eq] at X3
  have X4 := X3.noted hW'
  have ha : (W.heap.size + 2) < ((withThrown W Zs text P1.m.cls kX).setVm vm').heap.size := by show _ < (withThrown W Zs text P1.m.cls kX).heap.size; rw [w3]; omega
  have hcell : ((withThrown W Zs text P1.m.cls kX).setVm vm').heap[(W.heap.size + 2)]? = some (freshCell P1.m.cls kX) := w4
  have X5 := ((((X4.stored hcell T.fCause.slot (.ref (W.heap.size + 2))).storedAgain ha T.fStack.slot u0.v).storedAgain ha T.fSupp.slot sen.v).storedAgain ha T.fStack.slot u0.v).storedAgain ha T.fMsg.slot (.ref (W.heap.size + 1))
  obtain ⟨g₁, hfrM⟩ := X5.frames_eq
  have hU : ((((withThrown W Zs text P1.m.cls kX).setVm vm').setCell (W.heap.size + 2) (plainBareV T.toThrowableT (freshCell P1.m.cls kX) (W.heap.size + 2) u0 sen (.ref (W.heap.size + 1)))).setTop g).pushFrame (.throwing (W.heap.size + 2)) = (((withThrown W Zs text P1.m.cls kX).setVm vm').setCell (W.heap.size + 2) (plainBareV T.toThrowableT (freshCell P1.m.cls kX) (W.heap.size + 2) u0 sen (.ref (W.heap.size + 1)))).setFrames (.throwing (W.heap.size + 2) :: .java g :: below) := by
    rw [State.pushFrame, State.frames_setTop _ hfrM, State.setTop_of_frames _ hfrM, State.setFrames_setFrames]
  have b1 : (bytesOf Zs.cB (stringToUtf16 text)).slots.size = (stringBytes (stringToUtf16 text)).size := by
    rw [(Cell.writeAll_facts _ _).2.2]; simp [bytes0]
  have b2 : (stringAt Zs.cS Zs.kS Zs.fv Zs.fc (stringToUtf16 text) W.heap.size).slots.size = 4 := by simp [string0, Cell.setSlot, hn4]
  have b3 : (freshCell P1.m.cls kX).slots.size = 6 := by simp [hn6]
  rw [b1, b2, b3] at X5
  have e9 : slots + (stringBytes (stringToUtf16 text)).size + 4 + 6 = slots + ((stringBytes (stringToUtf16 text)).size + 4 + 6) := by omega
  rw [e9] at X5
  simp only [List.append_assoc, List.cons_append, List.nil_append] at X5
  refine ⟨((withThrown W Zs text P1.m.cls kX).setVm vm').setCell (W.heap.size + 2) (plainBareV T.toThrowableT (freshCell P1.m.cls kX) (W.heap.size + 2) u0 sen (.ref (W.heap.size + 1))), W.heap.size + 2, _, fun target ht => st _ (by rw [X.tail, ← hU]; exact ht),
    X5.forget (fun y hy => ?_), heapAt_setCell_self _ ha, hfound, rfl⟩
  simp only [List.mem_cons, List.not_mem_nil, or_false] at hy
  have hge : s.heap.size ≤ W.heap.size := X.same.2.1
  rcases hy with rfl | rfl | rfl | rfl | rfl <;> exact Nat.le_trans hge (Nat.le_add_right _ 2)
set_option maxHeartbeats 1000000 in
/-- the machine throws NullPointerException, no traces kept: from its note over the frame g to 'throwing' over the same frame (follows the proof of Stand.vmThrowsNpe, Shelf42/KT2.lean; throwsNpeColdBareVAt, Shelf42/NT91.lean, called) -/
theorem vx_npeAt {p : Program} {l : Launch} {e : Env} {R : Room} {s : State} {m₀ : MethodId} {args : Array Value} {below : List Frame} {meth : Method} {c : Code} {W : State} {locs : List Loc} {cells slots : Nat}
    (X : Stand p l e R s m₀ args below meth c W locs cells slots) (hexec : p.tables.exec = Jvm.exec) (htr : e.platform.stackTraces = false) {n : Nat}
    (h : ∀ a ∈ Bundle.npeArmAtoms n, a.before args s = true)
    (hlocs : ∀ x ∈ locs, ∀ cell, s.heap[x.base]? = some cell → cell.vm.isStatics = false)
    {g : JFrame} (hg : g.method = m₀) (hsize : g.locals.size = c.maxLocals)
    (hRframes : 7 < R.frames) (hRlocals : 2 * g.monitorRoom + (g.stack.map fun v => v.category).sum + 10240 ≤ R.locals)
    (hRcells : cells + 1 ≤ R.cells) (hRslots : slots + n ≤ R.slots) (hlocks : meth.locks = false) :
    ∃ (S : State) (q : Addr) (ce : Cell), (∀ target, Steps p.tables e below ((S.setTop g).pushFrame (.throwing q)) target → Steps p.tables e below ((W.setTop g).pushFrame (.throwNew "java/lang/NullPointerException" none none)) target) ∧
      Stand p l e R s m₀ args below meth c S locs (cells + 1) (slots + n) ∧ S.heap[q]? = some ce ∧ s.vm.findClass "java/lang/NullPointerException" = some ce.cls ∧ ce.vm = .none := by
  have howns : e.platform.frameOwnsMonitors = true := by rw [X.admits.platform]
  have hfin : e.platform.finalization = false := by rw [X.admits.platform]
  have hpl : e.platform.magicAccessors = ({} : Platform).magicAccessors := by rw [X.admits.platform]
  have hpl2 : e.platform.arrayCloneIsPublic = true := by rw [X.admits.platform]
  have a' : ∀ x, x ∈ Bundle.npeArmAtoms n → x.holds args s none s [] = true := fun x hx => h x hx
  obtain ⟨T, Z, L, LZ, Y⟩ := ThrowableC.of_atoms (args := args) howns hfin hpl (fun x hx => h x (by simp [Bundle.npeArmAtoms, hx]))
  obtain ⟨N, LN, hcN, hnNF, hordN, hffS⟩ := NpeC.of_atoms (args := args) hpl hpl2 L Y (fun x hx => h x (by simp [Bundle.npeArmAtoms, hx]))
  obtain ⟨P1, L1, hP1m, hP1s⟩ := PassC.of_atoms (args := args) (s := s) hpl (X := Bundle.nN) (Y := Bundle.rN) (by decide) (by decide) LibCode.NullPointerException.Init0.at_0 LibCode.NullPointerException.Init0.at_1 LibCode.NullPointerException.Init0.at_4 (fun x hx => h x (by simp [Bundle.npeArmAtoms, hx]))
  obtain ⟨PR, LR, hPRm, hPRs⟩ := PassC.of_atoms (args := args) (s := s) hpl (X := Bundle.rN) (Y := Bundle.eN) (by decide) (by decide) LibCode.RuntimeException.Init0.at_0 LibCode.RuntimeException.Init0.at_1 LibCode.RuntimeException.Init0.at_4 (fun x hx => h x (by simp [Bundle.npeArmAtoms, hx]))
  obtain ⟨PE, LEx, hPEm, hPEs⟩ := PassC.of_atoms (args := args) (s := s) hpl (X := Bundle.eN) (Y := Bundle.tN) (by decide) (by decide) LibCode.Exception.Init0.at_0 LibCode.Exception.Init0.at_1 LibCode.Exception.Init0.at_4 (fun x hx => h x (by simp [Bundle.npeArmAtoms, hx]))
  have hfound : s.vm.findClass Bundle.nN = some P1.m.cls := findClass_of_methodNamed hP1m
  have ecls : N.cN = P1.m.cls := Option.some.inj (hcN.symm.trans hfound)
  have hk : s.vm.classes[P1.m.cls]? = some N.kN := by rw [← ecls]; exact LN.cls
  have hinit := Cond.initialized_spec hfound hk (a' (.initialized Bundle.nN) (by simp [Bundle.npeArmAtoms]))
  have hctor : N.kN.findMethod "<init>" "()V" = some P1.m.idx := findMethod_of_methodNamed hP1m hk
  obtain ⟨c1, k1, hc1, hk1, -, -, -, hn⟩ := Cond.instantiable_spec (a' (.instantiable Bundle.nN n) (by simp [Bundle.npeArmAtoms]))
  cases Option.some.inj (hc1.symm.trans hfound)
  cases Option.some.inj (hk1.symm.trans hk)
  have hfsz : (freshCell P1.m.cls N.kN).slots.size = n := by simp [hn]
  have hlink1 : P1.sup = PR.m := Option.some.inj (hP1s.symm.trans hPRm)
  have hlinkR : PR.sup = PE.m := Option.some.inj (hPRs.symm.trans hPEm)
  have hlinkE : PE.sup = Z.m T.toThrowableT := Option.some.inj (hPEs.symm.trans Y.init0)
  have hLs : ∀ P, P ∈ [PR, PE] → P.Links0 e.platform s := fun P hP => by
    simp only [List.mem_cons, List.not_mem_nil, or_false] at hP
    rcases hP with rfl | rfl
    · exact LR
    · exact LEx
  have hsel0 : selectMethod e.platform s.vm P1.m.cls T.fill0 = .method T.fill0 := by
    obtain ⟨c2, r2, m2, q1, q2, q3, q4, -⟩ := Cond.selects_spec (a' (.selects Bundle.nN Bundle.tFill0 Bundle.tFill0) (by simp [Bundle.npeArmAtoms]))
    cases Option.some.inj (q1.symm.trans hfound)
    cases Option.some.inj (q2.symm.trans (State.methodFound?_of_named Y.fill0 (by decide)))
    cases Option.some.inj (q3.symm.trans Y.fill0)
    rw [Launch.admits_selectMethod X.admits]; exact q4
  have hselF : selectMethod e.platform s.vm P1.m.cls T.fill = .method N.fill := by
    obtain ⟨c2, r2, m2, q1, q2, q3, q4, -⟩ := Cond.selects_spec (a' (.selects Bundle.nN Bundle.tFill Bundle.nFill) (by simp [Bundle.npeArmAtoms]))
    cases Option.some.inj (q1.symm.trans hfound)
    cases Option.some.inj (q2.symm.trans (State.methodFound?_of_named Y.fill (by decide)))
    cases Option.some.inj (q3.symm.trans hnNF)
    rw [Launch.admits_selectMethod X.admits]; exact q4
  obtain ⟨cellS0, hcS0, hiss⟩ := Y.statics
  obtain ⟨u0, hu0⟩ := Cond.staticRefV Y.unassigned L.unassignedStatic L.statics hcS0 hiss (a' (.isRef (.static Bundle.tN "UNASSIGNED_STACK" Bundle.steD)) (by simp [Bundle.npeArmAtoms]))
  obtain ⟨sen, hsen⟩ := Cond.staticRefV Y.sentinel L.sentinelStatic L.statics hcS0 hiss (a' (.isRef (.static Bundle.tN "SUPPRESSED_SENTINEL" Bundle.listD)) (by simp [Bundle.npeArmAtoms]))
  obtain ⟨ci198, i198, fB, hk198, hg198, ha198, hsB, -, hnB, htB, hffB⟩ := Cond.ownField (t := .object "java/lang/Object") Y.found L.cls (by decide +kernel) (a' (.fieldLink Bundle.tN 198 Bundle.tN "backtrace" Bundle.objD) (by simp [Bundle.npeArmAtoms])) (a' (.lays Bundle.tN Bundle.tN "backtrace" Bundle.objD) (by simp [Bundle.npeArmAtoms])) e.platform hpl
  obtain ⟨cellS, hcS', heS, -, hkeep⟩ := X.same.2.2.2.2.2 T.aS cellS0 hcS0
  have hcellS : W.heap[T.aS]? = some cellS := hcS'
  have hout' : ∀ i, (⟨T.aS, i⟩ : Loc) ∉ locs := fun i hmem => by
    have := hlocs _ hmem cellS0 hcS0
    rw [hiss] at this; cases this
  have hknownS : cellS.vm ≠ .unknown := by
    rw [heS]; intro hu
    rw [show cellS0.vm = .unknown from hu] at hiss
    cases hiss
  have hvU : cellS.slots[T.fUnassigned.slot]? = some u0.v := by rw [hkeep _ (hout' _)]; exact hu0
  have hvSen : cellS.slots[T.fSentinel.slot]? = some sen.v := by rw [hkeep _ (hout' _)]; exact hsen
  obtain ⟨tyC, dC, hdC, hdnC⟩ := Cond.laysAt hfound hk Y.cause (a' (.lays Bundle.nN Bundle.tN "cause" "Ljava/lang/Throwable;") (by simp [Bundle.npeArmAtoms]))
  obtain ⟨tyS, dS, hdS, hdnS⟩ := Cond.laysAt hfound hk Y.stack (a' (.lays Bundle.nN Bundle.tN "stackTrace" Bundle.steD) (by simp [Bundle.npeArmAtoms]))
  obtain ⟨tyP, dP, hdP, hdnP⟩ := Cond.laysAt hfound hk Y.supp (a' (.lays Bundle.nN Bundle.tN "suppressedExceptions" Bundle.listD) (by simp [Bundle.npeArmAtoms]))
  obtain ⟨tyX, dX, hdX, hdnX⟩ := Cond.laysAt hfound hk hffS (a' (.lays Bundle.nN Bundle.nN "extendedMessageState" "I") (by simp [Bundle.npeArmAtoms, Bundle.npeAtoms]))
  obtain ⟨hnX, htX⟩ := State.fieldFound?_type hffS (t := .int) (by decide +kernel)
  have xC := Cond.laysApart hdC hdX hdnC hdnX (by rw [hnX, Y.causeName]; decide)
  have xS := Cond.laysApart hdS hdX hdnS hdnX (by rw [hnX, Y.stackName]; decide)
  have xP := Cond.laysApart hdP hdX hdnP hdnX (by rw [hnX, Y.suppName]; decide)
  have hv0 : (freshCell P1.m.cls N.kN).slots[N.fState.slot]? = some (.int 0) := by
    have := fresh_default (c := P1.m.cls) tyX
    rw [htX] at this; exact this
  obtain ⟨tyB, dB, hdB, hdnB⟩ := Cond.laysAt hfound hk hffB (a' (.lays Bundle.nN Bundle.tN "backtrace" Bundle.objD) (by simp [Bundle.npeArmAtoms]))
  have bC := Cond.laysApart hdB hdC hdnB hdnC (by rw [hnB, Y.causeName]; decide)
  have bS := Cond.laysApart hdB hdS hdnB hdnS (by rw [hnB, Y.stackName]; decide)
  have bP := Cond.laysApart hdB hdP hdnB hdnP (by rw [hnB, Y.suppName]; decide)
  have bX := Cond.laysApart hdB hdX hdnB hdnX (by rw [hnB, hnX]; decide)
  have hbk : ((npeCell N.toNpeT (preparedCellV T.toThrowableT (freshCell P1.m.cls N.kN) W.heap.size u0 sen) W.cur).withEntry W.cur).slots[fB.slot]? = some .null := by
    have := fresh_default (c := P1.m.cls) tyB
    rw [htB] at this
    simpa [npeCell, preparedCellV, Cell.setSlot, Cell.withEntry, Array.getElem?_setIfInBounds, bC, bS, bP, bX, bC.symm, bS.symm, bP.symm, bX.symm, defaultValue] using this
  have tkC := Takes.of_laid (v := .ref W.heap.size) hk hordN tyC (by rw [Y.causeType]; rfl)
  have tkS := Takes.of_laid (v := u0.v) hk hordN tyS (by rw [Y.stackType]; exact fits_refV_array _ u0)
  have tkP := Takes.of_laid (v := sen.v) hk hordN tyP (by rw [Y.suppType]; exact fits_refV_object _ sen)
  have tkX := Takes.of_laid (v := .int 1) hk hordN tyX (by rw [htX]; rfl)
  have hskip : SkipFacts T e.platform s (fun u => u) u0 ((npeCell N.toNpeT (preparedCellV T.toThrowableT (freshCell P1.m.cls N.kN) W.heap.size u0 sen) W.cur).withEntry W.cur) := ⟨{ ci198 := ci198, i198 := i198, fBack := fB }, ⟨hk198, hg198, ha198, hsB⟩, hbk, fun _ _ => rfl⟩
  obtain ⟨vm', X3, st, -⟩ := X.throwsNpeColdBareVAt hexec hg hsize T L Z LZ N LN P1 L1 [PR, PE] hLs hlink1 ⟨hlinkR, hlinkE, trivial⟩ hfound hk hinit hordN hctor hsel0 hselF hcellS hknownS hvU hvSen
    hv0 xC xS xP tkC tkS tkP tkX Y.objLocals hskip (fun _ _ hA hW _ hroom _ hrest => L.nativeOff p htr hA hW hroom hrest) (by simpa using hRframes) hRlocals (by simp) hRcells (by rw [hn]; exact hRslots)
  have hlt : W.heap.size < ((W.pushCell (freshCell P1.m.cls N.kN)).setVm vm').heap.size := by
    show W.heap.size < (W.pushCell (freshCell P1.m.cls N.kN)).heap.size
    rw [State.heap_size_pushCell]; omega
  rw [hfsz] at X3
  obtain ⟨g₁, hfrM⟩ := X3.frames_eq
  have hU : ((((W.pushCell (freshCell P1.m.cls N.kN)).setVm vm').setCell W.heap.size (npeBareV T.toThrowableT N.toNpeT (freshCell P1.m.cls N.kN) W.heap.size u0 sen)).setTop g).pushFrame (.throwing W.heap.size) = (((W.pushCell (freshCell P1.m.cls N.kN)).setVm vm').setCell W.heap.size (npeBareV T.toThrowableT N.toNpeT (freshCell P1.m.cls N.kN) W.heap.size u0 sen)).setFrames (.throwing W.heap.size :: .java g :: below) := by
    rw [State.pushFrame, State.frames_setTop _ hfrM, State.setTop_of_frames _ hfrM, State.setFrames_setFrames]
  refine ⟨_, W.heap.size, _, fun target ht => st.trans (by rw [← hU]; exact ht), X3.forget (fun y hy => ?_), heapAt_setCell_self _ hlt, hfound, rfl⟩
  simp only [List.mem_cons, List.not_mem_nil, or_false] at hy
  have hge : s.heap.size ≤ W.heap.size := X.same.2.1
  rcases hy with rfl | rfl | rfl | rfl | rfl <;> exact hge
/-- the words of a machine's NullPointerException, but the four that speak of the heap -/
def vx_atN (n : Nat) : List Cond := (Bundle.npeArmAtoms n).filter vx_no
/-- the words of a machine's throw with a message, but the four that speak of the heap -/
def vx_atM (X : String) (names : List String) : List Cond := (Bundle.messageArmAtoms X names).filter vx_no
section
variable {p : Program} {l : Launch} {e : Env} {R : Room} {s : State} {m : MethodId} {args : Array Value} {below : List Frame} {meth : Method} {c : Code} {H : Heap} {locs : List Loc} {cells slots : Nat}
/-- a frame seen from a rebased start, seen from the first start again -/
theorem vx_back9 {T S : State} {R' : Room} {k n : Nat} (X : Stand p l e R s m args below meth c T locs cells slots) (Y : Stand p l e R' ((T.setVm s.vm).setFrames (.invoking m args :: below)) m args below meth c T [] 0 0) (Z : Stand p l e R' ((T.setVm s.vm).setFrames (.invoking m args :: below)) m args below meth c S [] k n) :
    Stand p l e R s m args below meth c S locs (cells + k) (slots + n) := by
  have hW0 : s.WarmedH ((T.setVm s.vm).setFrames (.invoking m args :: below)).vm := State.WarmedH.refl s
  refine { admits := X.admits, cas := X.cas, clock := X.clock, frames := X.frames, room := X.room, hears := X.hears, method := X.method, code := X.code, here := Z.here, tail := Z.tail, warmed := State.WarmedH.trans hW0 Z.warmed, limits := Z.limits.trans (Y.limits.symm.trans X.limits), bytes := Z.bytes.trans (Y.bytes.symm.trans X.bytes), same := ?_ }
  obtain ⟨e1, e2⟩ := Z.same
  rw [State.setFrames_setFrames] at e1
  have h2 : (T.setVm s.vm).sameButNew (S.setVm s.vm) [] k n := ⟨e1, e2⟩
  have h3 := X.same.trans h2
  rw [List.append_nil] at h3
  exact h3
/-- from the machine's note that E is thrown here with this text -/
def vx_Note (p : Program) (l : Launch) (e : Env) (R : Room) (s : State) (m : MethodId) (args : Array Value) (below : List Frame) (meth : Method) (c : Code) (H : Heap) (locs : List Loc) (cells slots : Nat) (Q : State → Prop) (g : JFrame) (E text : String) : Prop :=
  ∀ T : State, T.heap = H → Stand p l e R s m args below meth c T locs cells slots → ∃ t, Steps p.tables e below ((T.setTop g).pushFrame (.throwNew E (some text) none)) t ∧ Q t
theorem vx_vm {pc : Nat} {ls : Array Slot} {rest : List Value} {Q : State → Prop} (hexec : p.tables.exec = Jvm.exec) (hl : l.stackTraces = false) {cls text : String} {names : List String} {nb : Nat} {A : Nat → Prop}
    (hcls : Bundle.fit cls = true) (hnames : ∀ n ∈ names, Bundle.fit n = true) (hsoe : (cls == "java/lang/StackOverflowError") = false) (hoom : (cls == "java/lang/OutOfMemoryError") = false)
    (hat : ∀ w ∈ vx_atM cls names, w.before args s = true) (hgood : ∀ w ∈ vx_atM cls names, vx_ot w = true)
    (hU : vx_Zq Bundle.tN "UNASSIGNED_STACK" Bundle.steD A s s.heap) (hN : vx_Zq Bundle.tN "SUPPRESSED_SENTINEL" Bundle.listD A s s.heap) (hS : va_S A s.heap H locs) (hsize : ls.size = c.maxLocals)
    (htext : (text == notModelled) = false) (hnb : (stringBytes (stringToUtf16 text)).size ≤ nb) (hnb1 : nb ≤ 1000)
    (hRframes : names.length + 4 < R.frames) (hRlocals : (rest.map fun v => v.category).sum + 10240 ≤ R.locals) (hshort : 13 * names.length + 55 ≤ 10240) (hRcells : cells + 3 ≤ R.cells) (hRslots : slots + (nb + 10) ≤ R.slots) (hlocks : meth.locks = false)
    (k : ∀ (H1 : Heap) (q9 : Addr) (ce : Cell), H.size ≤ H1.size → (∀ q : Nat, q < H.size → H1[q]? = H[q]?) → va_S A s.heap H1 locs → H1[q9]? = some ce → ce.vm = .none → s.vm.findClass cls = some ce.cls → vx_W p l e R s m args below meth c H1 locs (cells + 3) (slots + (nb + 10)) Q (F0 m pc ls rest) q9) :
    vx_Note p l e R s m args below meth c H locs cells slots Q (F0 m pc ls rest) cls text := by
  intro T hT X
  have htr : e.platform.stackTraces = false := (show e.platform.stackTraces = l.stackTraces by rw [X.admits.platform]).trans hl
  have Y := vx_rebase X (R' := { frames := R.frames, locals := R.locals, cells := 3, slots := nb + 10 }) (Nat.le_refl _) (Nat.le_refl _) hRcells hRslots
  have hhp : ((T.setVm s.vm).setFrames (.invoking m args :: below)).heap = H := hT
  have hW0 : s.WarmedH ((T.setVm s.vm).setFrames (.invoking m args :: below)).vm := State.WarmedH.refl s
  have hat' : ∀ w ∈ vx_atM cls names, w.before args ((T.setVm s.vm).setFrames (.invoking m args :: below)) = true := fun w hw => vx_ot_at hW0 rfl (hgood w hw) (hat w hw)
  have hU' : vx_Zq Bundle.tN "UNASSIGNED_STACK" Bundle.steD A ((T.setVm s.vm).setFrames (.invoking m args :: below)) ((T.setVm s.vm).setFrames (.invoking m args :: below)).heap := by rw [hhp]; exact vx_Zq.moved hW0.alike (hU.kept hS.2.1)
  have hN' : vx_Zq Bundle.tN "SUPPRESSED_SENTINEL" Bundle.listD A ((T.setVm s.vm).setFrames (.invoking m args :: below)) ((T.setVm s.vm).setFrames (.invoking m args :: below)).heap := by rw [hhp]; exact vx_Zq.moved hW0.alike (hN.kept hS.2.1)
  obtain ⟨S, q, ce, st, Z, hce, hcl', hv⟩ := vx_vmAt Y hexec htr (cls := cls) (names := names) (text := text) hcls hnames hsoe hoom (vx_own hat' (vx_isRefq hU'.1) (vx_isRefq hN'.1) hU'.2.word hN'.2.word) (fun x hx => nomatch hx) htext
    (by rw [Launch.admits_arrayLengthLimit X.admits]; omega) (by rw [Launch.admits_maxHeapBytes X.admits]; simp only [componentBytes]; omega)
    (g := F0 m pc ls rest) rfl hsize hRframes (by show 2 * 0 + (rest.map fun v => v.category).sum + 10240 ≤ R.locals; omega) hshort (by show 0 + 3 ≤ 3; omega) (by show 0 + (_ + 4 + 6) ≤ nb + 10; omega) hlocks
  obtain ⟨f1, f2⟩ := vx_frame Z.same
  have f1' : H.size ≤ S.heap.size := by rw [← hT]; exact f1
  have f2' : ∀ q : Nat, q < H.size → S.heap[q]? = H[q]? := fun q hq => by
    rw [← hT]
    exact f2 q (by rw [← hT] at hq; exact hq) (fun z hz => nomatch hz)
  have X5 := vx_back9 X Y Z
  have X6 : Stand p l e R s m args below meth c S locs (cells + 3) (slots + (nb + 10)) := { X5 with same := X5.same.mono (by omega) (by omega) }
  obtain ⟨t, a1, b1⟩ := k S.heap q ce f1' f2' ⟨Nat.le_trans hS.1 f1', fun q h1 h2 => (f2' q (Nat.lt_of_lt_of_le h1 hS.1)).trans (hS.2.1 q h1 h2), hS.2.2⟩ hce hv hcl' S rfl X6
  exact ⟨t, st t a1, b1⟩
/-- from the machine's note that NullPointerException is thrown here -/
def vx_NoteN (p : Program) (l : Launch) (e : Env) (R : Room) (s : State) (m : MethodId) (args : Array Value) (below : List Frame) (meth : Method) (c : Code) (H : Heap) (locs : List Loc) (cells slots : Nat) (Q : State → Prop) (g : JFrame) : Prop :=
  ∀ T : State, T.heap = H → Stand p l e R s m args below meth c T locs cells slots → ∃ t, Steps p.tables e below ((T.setTop g).pushFrame (.throwNew "java/lang/NullPointerException" none none)) t ∧ Q t
theorem vx_npe {pc : Nat} {ls : Array Slot} {rest : List Value} {Q : State → Prop} (hexec : p.tables.exec = Jvm.exec) (hl : l.stackTraces = false) {nb : Nat} {A : Nat → Prop}
    (hat : ∀ w ∈ vx_atN nb, w.before args s = true) (hgood : ∀ w ∈ vx_atN nb, vx_ot w = true)
    (hU : vx_Zq Bundle.tN "UNASSIGNED_STACK" Bundle.steD A s s.heap) (hN : vx_Zq Bundle.tN "SUPPRESSED_SENTINEL" Bundle.listD A s s.heap) (hS : va_S A s.heap H locs) (hsize : ls.size = c.maxLocals)
    (hRframes : 7 < R.frames) (hRlocals : (rest.map fun v => v.category).sum + 10240 ≤ R.locals) (hRcells : cells + 1 ≤ R.cells) (hRslots : slots + nb ≤ R.slots) (hlocks : meth.locks = false)
    (k : ∀ (H1 : Heap) (q9 : Addr) (ce : Cell), H.size ≤ H1.size → (∀ q : Nat, q < H.size → H1[q]? = H[q]?) → va_S A s.heap H1 locs → H1[q9]? = some ce → ce.vm = .none → s.vm.findClass "java/lang/NullPointerException" = some ce.cls → vx_W p l e R s m args below meth c H1 locs (cells + 1) (slots + nb) Q (F0 m pc ls rest) q9) :
    vx_NoteN p l e R s m args below meth c H locs cells slots Q (F0 m pc ls rest) := by
  intro T hT X
  have htr : e.platform.stackTraces = false := (show e.platform.stackTraces = l.stackTraces by rw [X.admits.platform]).trans hl
  have Y := vx_rebase X (R' := { frames := R.frames, locals := R.locals, cells := 1, slots := nb }) (Nat.le_refl _) (Nat.le_refl _) hRcells hRslots
  have hhp : ((T.setVm s.vm).setFrames (.invoking m args :: below)).heap = H := hT
  have hW0 : s.WarmedH ((T.setVm s.vm).setFrames (.invoking m args :: below)).vm := State.WarmedH.refl s
  have hat' : ∀ w ∈ vx_atN nb, w.before args ((T.setVm s.vm).setFrames (.invoking m args :: below)) = true := fun w hw => vx_ot_at hW0 rfl (hgood w hw) (hat w hw)
  have hU' : vx_Zq Bundle.tN "UNASSIGNED_STACK" Bundle.steD A ((T.setVm s.vm).setFrames (.invoking m args :: below)) ((T.setVm s.vm).setFrames (.invoking m args :: below)).heap := by rw [hhp]; exact vx_Zq.moved hW0.alike (hU.kept hS.2.1)
  have hN' : vx_Zq Bundle.tN "SUPPRESSED_SENTINEL" Bundle.listD A ((T.setVm s.vm).setFrames (.invoking m args :: below)) ((T.setVm s.vm).setFrames (.invoking m args :: below)).heap := by rw [hhp]; exact vx_Zq.moved hW0.alike (hN.kept hS.2.1)
  obtain ⟨S, q, ce, st, Z, hce, hcl', hv⟩ := vx_npeAt Y hexec htr (n := nb) (vx_own hat' (vx_isRefq hU'.1) (vx_isRefq hN'.1) hU'.2.word hN'.2.word) (fun x hx => nomatch hx)
    (g := F0 m pc ls rest) rfl hsize hRframes (by show 2 * 0 + (rest.map fun v => v.category).sum + 10240 ≤ R.locals; omega) (by show 0 + 1 ≤ 1; omega) (by show 0 + nb ≤ nb; omega) hlocks
  obtain ⟨f1, f2⟩ := vx_frame Z.same
  have f1' : H.size ≤ S.heap.size := by rw [← hT]; exact f1
  have f2' : ∀ q : Nat, q < H.size → S.heap[q]? = H[q]? := fun q hq => by
    rw [← hT]
    exact f2 q (by rw [← hT] at hq; exact hq) (fun z hz => nomatch hz)
  have X5 := vx_back9 X Y Z
  have X6 : Stand p l e R s m args below meth c S locs (cells + 1) (slots + nb) := { X5 with same := X5.same.mono (by omega) (by omega) }
  obtain ⟨t, a1, b1⟩ := k S.heap q ce f1' f2' ⟨Nat.le_trans hS.1 f1', fun q h1 h2 => (f2' q (Nat.lt_of_lt_of_le h1 hS.1)).trans (hS.2.1 q h1 h2), hS.2.2⟩ hce hv hcl' S rfl X6
  exact ⟨t, st t a1, b1⟩
variable {Q : State → Prop} {cc : ByteArray} {pc : Nat} {ls : Array Slot} {rest : List Value}
theorem vx_idivZ (hexec : p.tables.exec = Jvm.exec) (hb : c.code = cc) {a b : Int32} (h0 : b = 0) (d : decode cc pc = .ok (.idiv, 1)) (k : vx_Note p l e R s m args below meth c H locs cells slots Q (F0 m pc ls rest) "java/lang/ArithmeticException" "/ by zero") :
    W p l e R s m args below meth c H locs cells slots Q (F0 m pc ls (.int b :: .int a :: rest)) := by
  intro T hT X
  obtain ⟨t, st, q⟩ := k T hT X
  exact ⟨t, X.idivZero hexec (g := F0 m pc ls (.int b :: .int a :: rest)) rfl (a := a) (rest := rest) (by rw [h0]) (by rw [hb]; exact d) t st, q⟩
theorem vx_iremZ (hexec : p.tables.exec = Jvm.exec) (hb : c.code = cc) {a b : Int32} (h0 : b = 0) (d : decode cc pc = .ok (.irem, 1)) (k : vx_Note p l e R s m args below meth c H locs cells slots Q (F0 m pc ls rest) "java/lang/ArithmeticException" "/ by zero") :
    W p l e R s m args below meth c H locs cells slots Q (F0 m pc ls (.int b :: .int a :: rest)) := by
  intro T hT X
  obtain ⟨t, st, q⟩ := k T hT X
  exact ⟨t, X.iremZero hexec (g := F0 m pc ls (.int b :: .int a :: rest)) rfl (a := a) (rest := rest) (by rw [h0]) (by rw [hb]; exact d) t st, q⟩
theorem vx_ldivZ (hexec : p.tables.exec = Jvm.exec) (hb : c.code = cc) {a b : Int64} (h0 : b = 0) (d : decode cc pc = .ok (.ldiv, 1)) (k : vx_Note p l e R s m args below meth c H locs cells slots Q (F0 m pc ls rest) "java/lang/ArithmeticException" "/ by zero") :
    W p l e R s m args below meth c H locs cells slots Q (F0 m pc ls (.long b :: .long a :: rest)) := by
  intro T hT X
  obtain ⟨t, st, q⟩ := k T hT X
  exact ⟨t, X.ldivZero hexec (g := F0 m pc ls (.long b :: .long a :: rest)) rfl (a := a) (rest := rest) (by rw [h0]) (by rw [hb]; exact d) t st, q⟩
theorem vx_lremZ (hexec : p.tables.exec = Jvm.exec) (hb : c.code = cc) {a b : Int64} (h0 : b = 0) (d : decode cc pc = .ok (.lrem, 1)) (k : vx_Note p l e R s m args below meth c H locs cells slots Q (F0 m pc ls rest) "java/lang/ArithmeticException" "/ by zero") :
    W p l e R s m args below meth c H locs cells slots Q (F0 m pc ls (.long b :: .long a :: rest)) := by
  intro T hT X
  obtain ⟨t, st, q⟩ := k T hT X
  exact ⟨t, X.lremZero hexec (g := F0 m pc ls (.long b :: .long a :: rest)) rfl (a := a) (rest := rest) (by rw [h0]) (by rw [hb]; exact d) t st, q⟩
theorem vx_ialdZ {D : va_G} {cl : List vw_C} {ws : va_W} {tys : List (ClassId × FieldType)} {a : Nat} (hexec : p.tables.exec = Jvm.exec) (hb : c.code = cc) (hK : va_K D cl tys s) (hP : va_P D cl ws H) (q0 t0 : Nat) {cA : ClassId} {n : Nat} {f : Nat → Int32} (ha : ws[q0]? = some (a, .inl (cA, n, .inl f))) (ht : tys[t0]? = some (cA, .int)) {i : Int32} (hout : ¬ vp_in i n) (hdg : decode cc pc = .ok (.iaload, 1))
    (k : ∀ tx : String, tx = (toString "Index " ++ toString i ++ toString " out of bounds for length " ++ toString n : String) → vx_Note p l e R s m args below meth c H locs cells slots Q (F0 m pc ls rest) "java/lang/ArrayIndexOutOfBoundsException" tx) : W p l e R s m args below meth c H locs cells slots Q (F0 m pc ls (.int i :: .ref a :: rest)) := by
  intro T hT X
  obtain ⟨t, st, q⟩ := k _ rfl T hT X
  refine ⟨t, ?_, q⟩
  have h1 := X.ialoadOut hexec (by rw [hT]; exact hP q0 _ ha) ((hK.2 t0 _ ht).1 n (fun j => .int (f j))) (j := i) (by show (i < 0 ∨ (arrV _ _ _).slots.size ≤ _); rw [arrV_size]; exact Classical.byContradiction hout) (g := F0 m pc ls (.int i :: .ref a :: rest)) rfl (rest := rest) rfl (by rw [hb]; exact hdg) t
  simp only [arrV_size] at h1
  exact h1 st
theorem vx_iastZ {D : va_G} {cl : List vw_C} {ws : va_W} {tys : List (ClassId × FieldType)} {a : Nat} (hexec : p.tables.exec = Jvm.exec) (hb : c.code = cc) (hK : va_K D cl tys s) (hP : va_P D cl ws H) (q0 t0 : Nat) {cA : ClassId} {n : Nat} {f : Nat → Int32} (ha : ws[q0]? = some (a, .inl (cA, n, .inl f))) (ht : tys[t0]? = some (cA, .int)) {i : Int32} {x : Int32} (hout : ¬ vp_in i n) (hdg : decode cc pc = .ok (.iastore, 1))
    (k : ∀ tx : String, tx = (toString "Index " ++ toString i ++ toString " out of bounds for length " ++ toString n : String) → vx_Note p l e R s m args below meth c H locs cells slots Q (F0 m pc ls rest) "java/lang/ArrayIndexOutOfBoundsException" tx) : W p l e R s m args below meth c H locs cells slots Q (F0 m pc ls (.int x :: .int i :: .ref a :: rest)) := by
  intro T hT X
  obtain ⟨t, st, q⟩ := k _ rfl T hT X
  refine ⟨t, ?_, q⟩
  have h1 := X.iastoreOut hexec (by rw [hT]; exact hP q0 _ ha) ((hK.2 t0 _ ht).1 n (fun j => .int (f j))) (j := i) (by show (i < 0 ∨ (arrV _ _ _).slots.size ≤ _); rw [arrV_size]; exact Classical.byContradiction hout) (g := F0 m pc ls (.int x :: .int i :: .ref a :: rest)) rfl (rest := rest) rfl (by rw [hb]; exact hdg) t
  simp only [arrV_size] at h1
  exact h1 st
theorem vx_baldZ {D : va_G} {cl : List vw_C} {ws : va_W} {tys : List (ClassId × FieldType)} {a : Nat} (hexec : p.tables.exec = Jvm.exec) (hb : c.code = cc) (hK : va_K D cl tys s) (hP : va_P D cl ws H) (q0 t0 : Nat) {cA : ClassId} {n : Nat} {f : Nat → Int32} (ha : ws[q0]? = some (a, .inl (cA, n, .inl f))) (ht : tys[t0]? = some (cA, .byte)) {i : Int32} (hout : ¬ vp_in i n) (hdg : decode cc pc = .ok (.baload, 1))
    (k : ∀ tx : String, tx = (toString "Index " ++ toString i ++ toString " out of bounds for length " ++ toString n : String) → vx_Note p l e R s m args below meth c H locs cells slots Q (F0 m pc ls rest) "java/lang/ArrayIndexOutOfBoundsException" tx) : W p l e R s m args below meth c H locs cells slots Q (F0 m pc ls (.int i :: .ref a :: rest)) := by
  intro T hT X
  obtain ⟨t, st, q⟩ := k _ rfl T hT X
  refine ⟨t, ?_, q⟩
  have h1 := X.baloadOut hexec (by rw [hT]; exact hP q0 _ ha) ((hK.2 t0 _ ht).1 n (fun j => .int (f j))) (j := i) (by show (i < 0 ∨ (arrV _ _ _).slots.size ≤ _); rw [arrV_size]; exact Classical.byContradiction hout) (g := F0 m pc ls (.int i :: .ref a :: rest)) rfl (rest := rest) rfl (by rw [hb]; exact hdg) t
  simp only [arrV_size] at h1
  exact h1 st
theorem vx_bastZ {D : va_G} {cl : List vw_C} {ws : va_W} {tys : List (ClassId × FieldType)} {a : Nat} (hexec : p.tables.exec = Jvm.exec) (hb : c.code = cc) (hK : va_K D cl tys s) (hP : va_P D cl ws H) (q0 t0 : Nat) {cA : ClassId} {n : Nat} {f : Nat → Int32} (ha : ws[q0]? = some (a, .inl (cA, n, .inl f))) (ht : tys[t0]? = some (cA, .byte)) {i : Int32} {x : Int32} (hout : ¬ vp_in i n) (hdg : decode cc pc = .ok (.bastore, 1))
    (k : ∀ tx : String, tx = (toString "Index " ++ toString i ++ toString " out of bounds for length " ++ toString n : String) → vx_Note p l e R s m args below meth c H locs cells slots Q (F0 m pc ls rest) "java/lang/ArrayIndexOutOfBoundsException" tx) : W p l e R s m args below meth c H locs cells slots Q (F0 m pc ls (.int x :: .int i :: .ref a :: rest)) := by
  intro T hT X
  obtain ⟨t, st, q⟩ := k _ rfl T hT X
  refine ⟨t, ?_, q⟩
  have h1 := X.bastoreOut hexec (by rw [hT]; exact hP q0 _ ha) ((hK.2 t0 _ ht).1 n (fun j => .int (f j))) (j := i) (by show (i < 0 ∨ (arrV _ _ _).slots.size ≤ _); rw [arrV_size]; exact Classical.byContradiction hout) (g := F0 m pc ls (.int x :: .int i :: .ref a :: rest)) rfl (rest := rest) rfl (by rw [hb]; exact hdg) t
  simp only [arrV_size] at h1
  exact h1 st
theorem vx_zaldZ {D : va_G} {cl : List vw_C} {ws : va_W} {tys : List (ClassId × FieldType)} {a : Nat} (hexec : p.tables.exec = Jvm.exec) (hb : c.code = cc) (hK : va_K D cl tys s) (hP : va_P D cl ws H) (q0 t0 : Nat) {cA : ClassId} {n : Nat} {f : Nat → Int32} (ha : ws[q0]? = some (a, .inl (cA, n, .inl f))) (ht : tys[t0]? = some (cA, .boolean)) {i : Int32} (hout : ¬ vp_in i n) (hdg : decode cc pc = .ok (.baload, 1))
    (k : ∀ tx : String, tx = (toString "Index " ++ toString i ++ toString " out of bounds for length " ++ toString n : String) → vx_Note p l e R s m args below meth c H locs cells slots Q (F0 m pc ls rest) "java/lang/ArrayIndexOutOfBoundsException" tx) : W p l e R s m args below meth c H locs cells slots Q (F0 m pc ls (.int i :: .ref a :: rest)) := by
  intro T hT X
  obtain ⟨t, st, q⟩ := k _ rfl T hT X
  refine ⟨t, ?_, q⟩
  have h1 := X.baloadOut hexec (by rw [hT]; exact hP q0 _ ha) ((hK.2 t0 _ ht).1 n (fun j => .int (f j))) (j := i) (by show (i < 0 ∨ (arrV _ _ _).slots.size ≤ _); rw [arrV_size]; exact Classical.byContradiction hout) (g := F0 m pc ls (.int i :: .ref a :: rest)) rfl (rest := rest) rfl (by rw [hb]; exact hdg) t
  simp only [arrV_size] at h1
  exact h1 st
theorem vx_zastZ {D : va_G} {cl : List vw_C} {ws : va_W} {tys : List (ClassId × FieldType)} {a : Nat} (hexec : p.tables.exec = Jvm.exec) (hb : c.code = cc) (hK : va_K D cl tys s) (hP : va_P D cl ws H) (q0 t0 : Nat) {cA : ClassId} {n : Nat} {f : Nat → Int32} (ha : ws[q0]? = some (a, .inl (cA, n, .inl f))) (ht : tys[t0]? = some (cA, .boolean)) {i : Int32} {x : Int32} (hout : ¬ vp_in i n) (hdg : decode cc pc = .ok (.bastore, 1))
    (k : ∀ tx : String, tx = (toString "Index " ++ toString i ++ toString " out of bounds for length " ++ toString n : String) → vx_Note p l e R s m args below meth c H locs cells slots Q (F0 m pc ls rest) "java/lang/ArrayIndexOutOfBoundsException" tx) : W p l e R s m args below meth c H locs cells slots Q (F0 m pc ls (.int x :: .int i :: .ref a :: rest)) := by
  intro T hT X
  obtain ⟨t, st, q⟩ := k _ rfl T hT X
  refine ⟨t, ?_, q⟩
  have h1 := X.bastoreOut hexec (by rw [hT]; exact hP q0 _ ha) ((hK.2 t0 _ ht).1 n (fun j => .int (f j))) (j := i) (by show (i < 0 ∨ (arrV _ _ _).slots.size ≤ _); rw [arrV_size]; exact Classical.byContradiction hout) (g := F0 m pc ls (.int x :: .int i :: .ref a :: rest)) rfl (rest := rest) rfl (by rw [hb]; exact hdg) t
  simp only [arrV_size] at h1
  exact h1 st
theorem vx_caldZ {D : va_G} {cl : List vw_C} {ws : va_W} {tys : List (ClassId × FieldType)} {a : Nat} (hexec : p.tables.exec = Jvm.exec) (hb : c.code = cc) (hK : va_K D cl tys s) (hP : va_P D cl ws H) (q0 t0 : Nat) {cA : ClassId} {n : Nat} {f : Nat → Int32} (ha : ws[q0]? = some (a, .inl (cA, n, .inl f))) (ht : tys[t0]? = some (cA, .char)) {i : Int32} (hout : ¬ vp_in i n) (hdg : decode cc pc = .ok (.caload, 1))
    (k : ∀ tx : String, tx = (toString "Index " ++ toString i ++ toString " out of bounds for length " ++ toString n : String) → vx_Note p l e R s m args below meth c H locs cells slots Q (F0 m pc ls rest) "java/lang/ArrayIndexOutOfBoundsException" tx) : W p l e R s m args below meth c H locs cells slots Q (F0 m pc ls (.int i :: .ref a :: rest)) := by
  intro T hT X
  obtain ⟨t, st, q⟩ := k _ rfl T hT X
  refine ⟨t, ?_, q⟩
  have h1 := X.caloadOut hexec (by rw [hT]; exact hP q0 _ ha) ((hK.2 t0 _ ht).1 n (fun j => .int (f j))) (j := i) (by show (i < 0 ∨ (arrV _ _ _).slots.size ≤ _); rw [arrV_size]; exact Classical.byContradiction hout) (g := F0 m pc ls (.int i :: .ref a :: rest)) rfl (rest := rest) rfl (by rw [hb]; exact hdg) t
  simp only [arrV_size] at h1
  exact h1 st
theorem vx_castZ {D : va_G} {cl : List vw_C} {ws : va_W} {tys : List (ClassId × FieldType)} {a : Nat} (hexec : p.tables.exec = Jvm.exec) (hb : c.code = cc) (hK : va_K D cl tys s) (hP : va_P D cl ws H) (q0 t0 : Nat) {cA : ClassId} {n : Nat} {f : Nat → Int32} (ha : ws[q0]? = some (a, .inl (cA, n, .inl f))) (ht : tys[t0]? = some (cA, .char)) {i : Int32} {x : Int32} (hout : ¬ vp_in i n) (hdg : decode cc pc = .ok (.castore, 1))
    (k : ∀ tx : String, tx = (toString "Index " ++ toString i ++ toString " out of bounds for length " ++ toString n : String) → vx_Note p l e R s m args below meth c H locs cells slots Q (F0 m pc ls rest) "java/lang/ArrayIndexOutOfBoundsException" tx) : W p l e R s m args below meth c H locs cells slots Q (F0 m pc ls (.int x :: .int i :: .ref a :: rest)) := by
  intro T hT X
  obtain ⟨t, st, q⟩ := k _ rfl T hT X
  refine ⟨t, ?_, q⟩
  have h1 := X.castoreOut hexec (by rw [hT]; exact hP q0 _ ha) ((hK.2 t0 _ ht).1 n (fun j => .int (f j))) (j := i) (by show (i < 0 ∨ (arrV _ _ _).slots.size ≤ _); rw [arrV_size]; exact Classical.byContradiction hout) (g := F0 m pc ls (.int x :: .int i :: .ref a :: rest)) rfl (rest := rest) rfl (by rw [hb]; exact hdg) t
  simp only [arrV_size] at h1
  exact h1 st
theorem vx_saldZ {D : va_G} {cl : List vw_C} {ws : va_W} {tys : List (ClassId × FieldType)} {a : Nat} (hexec : p.tables.exec = Jvm.exec) (hb : c.code = cc) (hK : va_K D cl tys s) (hP : va_P D cl ws H) (q0 t0 : Nat) {cA : ClassId} {n : Nat} {f : Nat → Int32} (ha : ws[q0]? = some (a, .inl (cA, n, .inl f))) (ht : tys[t0]? = some (cA, .short)) {i : Int32} (hout : ¬ vp_in i n) (hdg : decode cc pc = .ok (.saload, 1))
    (k : ∀ tx : String, tx = (toString "Index " ++ toString i ++ toString " out of bounds for length " ++ toString n : String) → vx_Note p l e R s m args below meth c H locs cells slots Q (F0 m pc ls rest) "java/lang/ArrayIndexOutOfBoundsException" tx) : W p l e R s m args below meth c H locs cells slots Q (F0 m pc ls (.int i :: .ref a :: rest)) := by
  intro T hT X
  obtain ⟨t, st, q⟩ := k _ rfl T hT X
  refine ⟨t, ?_, q⟩
  have h1 := X.saloadOut hexec (by rw [hT]; exact hP q0 _ ha) ((hK.2 t0 _ ht).1 n (fun j => .int (f j))) (j := i) (by show (i < 0 ∨ (arrV _ _ _).slots.size ≤ _); rw [arrV_size]; exact Classical.byContradiction hout) (g := F0 m pc ls (.int i :: .ref a :: rest)) rfl (rest := rest) rfl (by rw [hb]; exact hdg) t
  simp only [arrV_size] at h1
  exact h1 st
theorem vx_sastZ {D : va_G} {cl : List vw_C} {ws : va_W} {tys : List (ClassId × FieldType)} {a : Nat} (hexec : p.tables.exec = Jvm.exec) (hb : c.code = cc) (hK : va_K D cl tys s) (hP : va_P D cl ws H) (q0 t0 : Nat) {cA : ClassId} {n : Nat} {f : Nat → Int32} (ha : ws[q0]? = some (a, .inl (cA, n, .inl f))) (ht : tys[t0]? = some (cA, .short)) {i : Int32} {x : Int32} (hout : ¬ vp_in i n) (hdg : decode cc pc = .ok (.sastore, 1))
    (k : ∀ tx : String, tx = (toString "Index " ++ toString i ++ toString " out of bounds for length " ++ toString n : String) → vx_Note p l e R s m args below meth c H locs cells slots Q (F0 m pc ls rest) "java/lang/ArrayIndexOutOfBoundsException" tx) : W p l e R s m args below meth c H locs cells slots Q (F0 m pc ls (.int x :: .int i :: .ref a :: rest)) := by
  intro T hT X
  obtain ⟨t, st, q⟩ := k _ rfl T hT X
  refine ⟨t, ?_, q⟩
  have h1 := X.sastoreOut hexec (by rw [hT]; exact hP q0 _ ha) ((hK.2 t0 _ ht).1 n (fun j => .int (f j))) (j := i) (by show (i < 0 ∨ (arrV _ _ _).slots.size ≤ _); rw [arrV_size]; exact Classical.byContradiction hout) (g := F0 m pc ls (.int x :: .int i :: .ref a :: rest)) rfl (rest := rest) rfl (by rw [hb]; exact hdg) t
  simp only [arrV_size] at h1
  exact h1 st
theorem vx_laldZ {D : va_G} {cl : List vw_C} {ws : va_W} {tys : List (ClassId × FieldType)} {a : Nat} (hexec : p.tables.exec = Jvm.exec) (hb : c.code = cc) (hK : va_K D cl tys s) (hP : va_P D cl ws H) (q0 t0 : Nat) {cA : ClassId} {n : Nat} {f : Nat → Int64} (ha : ws[q0]? = some (a, .inl (cA, n, .inr (.inl f)))) (ht : tys[t0]? = some (cA, .long)) {i : Int32} (hout : ¬ vp_in i n) (hdg : decode cc pc = .ok (.laload, 1))
    (k : ∀ tx : String, tx = (toString "Index " ++ toString i ++ toString " out of bounds for length " ++ toString n : String) → vx_Note p l e R s m args below meth c H locs cells slots Q (F0 m pc ls rest) "java/lang/ArrayIndexOutOfBoundsException" tx) : W p l e R s m args below meth c H locs cells slots Q (F0 m pc ls (.int i :: .ref a :: rest)) := by
  intro T hT X
  obtain ⟨t, st, q⟩ := k _ rfl T hT X
  refine ⟨t, ?_, q⟩
  have h1 := X.laloadOut hexec (by rw [hT]; exact hP q0 _ ha) ((hK.2 t0 _ ht).1 n (fun j => .long (f j))) (j := i) (by show (i < 0 ∨ (arrV _ _ _).slots.size ≤ _); rw [arrV_size]; exact Classical.byContradiction hout) (g := F0 m pc ls (.int i :: .ref a :: rest)) rfl (rest := rest) rfl (by rw [hb]; exact hdg) t
  simp only [arrV_size] at h1
  exact h1 st
theorem vx_lastZ {D : va_G} {cl : List vw_C} {ws : va_W} {tys : List (ClassId × FieldType)} {a : Nat} (hexec : p.tables.exec = Jvm.exec) (hb : c.code = cc) (hK : va_K D cl tys s) (hP : va_P D cl ws H) (q0 t0 : Nat) {cA : ClassId} {n : Nat} {f : Nat → Int64} (ha : ws[q0]? = some (a, .inl (cA, n, .inr (.inl f)))) (ht : tys[t0]? = some (cA, .long)) {i : Int32} {x : Int64} (hout : ¬ vp_in i n) (hdg : decode cc pc = .ok (.lastore, 1))
    (k : ∀ tx : String, tx = (toString "Index " ++ toString i ++ toString " out of bounds for length " ++ toString n : String) → vx_Note p l e R s m args below meth c H locs cells slots Q (F0 m pc ls rest) "java/lang/ArrayIndexOutOfBoundsException" tx) : W p l e R s m args below meth c H locs cells slots Q (F0 m pc ls (.long x :: .int i :: .ref a :: rest)) := by
  intro T hT X
  obtain ⟨t, st, q⟩ := k _ rfl T hT X
  refine ⟨t, ?_, q⟩
  have h1 := X.lastoreOut hexec (by rw [hT]; exact hP q0 _ ha) ((hK.2 t0 _ ht).1 n (fun j => .long (f j))) (j := i) (by show (i < 0 ∨ (arrV _ _ _).slots.size ≤ _); rw [arrV_size]; exact Classical.byContradiction hout) (g := F0 m pc ls (.long x :: .int i :: .ref a :: rest)) rfl (rest := rest) rfl (by rw [hb]; exact hdg) t
  simp only [arrV_size] at h1
  exact h1 st
theorem vx_faldZ {D : va_G} {cl : List vw_C} {ws : va_W} {tys : List (ClassId × FieldType)} {a : Nat} (hexec : p.tables.exec = Jvm.exec) (hb : c.code = cc) (hK : va_K D cl tys s) (hP : va_P D cl ws H) (q0 t0 : Nat) {cA : ClassId} {n : Nat} {f : Nat → UInt32} (ha : ws[q0]? = some (a, .inl (cA, n, .inr (.inr (.inl f))))) (ht : tys[t0]? = some (cA, .float)) {i : Int32} (hout : ¬ vp_in i n) (hdg : decode cc pc = .ok (.faload, 1))
    (k : ∀ tx : String, tx = (toString "Index " ++ toString i ++ toString " out of bounds for length " ++ toString n : String) → vx_Note p l e R s m args below meth c H locs cells slots Q (F0 m pc ls rest) "java/lang/ArrayIndexOutOfBoundsException" tx) : W p l e R s m args below meth c H locs cells slots Q (F0 m pc ls (.int i :: .ref a :: rest)) := by
  intro T hT X
  obtain ⟨t, st, q⟩ := k _ rfl T hT X
  refine ⟨t, ?_, q⟩
  have h1 := X.faloadOut hexec (by rw [hT]; exact hP q0 _ ha) ((hK.2 t0 _ ht).1 n (fun j => .float (f j))) (j := i) (by show (i < 0 ∨ (arrV _ _ _).slots.size ≤ _); rw [arrV_size]; exact Classical.byContradiction hout) (g := F0 m pc ls (.int i :: .ref a :: rest)) rfl (rest := rest) rfl (by rw [hb]; exact hdg) t
  simp only [arrV_size] at h1
  exact h1 st
theorem vx_fastZ {D : va_G} {cl : List vw_C} {ws : va_W} {tys : List (ClassId × FieldType)} {a : Nat} (hexec : p.tables.exec = Jvm.exec) (hb : c.code = cc) (hK : va_K D cl tys s) (hP : va_P D cl ws H) (q0 t0 : Nat) {cA : ClassId} {n : Nat} {f : Nat → UInt32} (ha : ws[q0]? = some (a, .inl (cA, n, .inr (.inr (.inl f))))) (ht : tys[t0]? = some (cA, .float)) {i : Int32} {x : UInt32} (hout : ¬ vp_in i n) (hdg : decode cc pc = .ok (.fastore, 1))
    (k : ∀ tx : String, tx = (toString "Index " ++ toString i ++ toString " out of bounds for length " ++ toString n : String) → vx_Note p l e R s m args below meth c H locs cells slots Q (F0 m pc ls rest) "java/lang/ArrayIndexOutOfBoundsException" tx) : W p l e R s m args below meth c H locs cells slots Q (F0 m pc ls (.float x :: .int i :: .ref a :: rest)) := by
  intro T hT X
  obtain ⟨t, st, q⟩ := k _ rfl T hT X
  refine ⟨t, ?_, q⟩
  have h1 := X.fastoreOut hexec (by rw [hT]; exact hP q0 _ ha) ((hK.2 t0 _ ht).1 n (fun j => .float (f j))) (j := i) (by show (i < 0 ∨ (arrV _ _ _).slots.size ≤ _); rw [arrV_size]; exact Classical.byContradiction hout) (g := F0 m pc ls (.float x :: .int i :: .ref a :: rest)) rfl (rest := rest) rfl (by rw [hb]; exact hdg) t
  simp only [arrV_size] at h1
  exact h1 st
theorem vx_daldZ {D : va_G} {cl : List vw_C} {ws : va_W} {tys : List (ClassId × FieldType)} {a : Nat} (hexec : p.tables.exec = Jvm.exec) (hb : c.code = cc) (hK : va_K D cl tys s) (hP : va_P D cl ws H) (q0 t0 : Nat) {cA : ClassId} {n : Nat} {f : Nat → UInt64} (ha : ws[q0]? = some (a, .inl (cA, n, .inr (.inr (.inr (.inl f)))))) (ht : tys[t0]? = some (cA, .double)) {i : Int32} (hout : ¬ vp_in i n) (hdg : decode cc pc = .ok (.daload, 1))
    (k : ∀ tx : String, tx = (toString "Index " ++ toString i ++ toString " out of bounds for length " ++ toString n : String) → vx_Note p l e R s m args below meth c H locs cells slots Q (F0 m pc ls rest) "java/lang/ArrayIndexOutOfBoundsException" tx) : W p l e R s m args below meth c H locs cells slots Q (F0 m pc ls (.int i :: .ref a :: rest)) := by
  intro T hT X
  obtain ⟨t, st, q⟩ := k _ rfl T hT X
  refine ⟨t, ?_, q⟩
  have h1 := X.daloadOut hexec (by rw [hT]; exact hP q0 _ ha) ((hK.2 t0 _ ht).1 n (fun j => .double (f j))) (j := i) (by show (i < 0 ∨ (arrV _ _ _).slots.size ≤ _); rw [arrV_size]; exact Classical.byContradiction hout) (g := F0 m pc ls (.int i :: .ref a :: rest)) rfl (rest := rest) rfl (by rw [hb]; exact hdg) t
  simp only [arrV_size] at h1
  exact h1 st
theorem vx_dastZ {D : va_G} {cl : List vw_C} {ws : va_W} {tys : List (ClassId × FieldType)} {a : Nat} (hexec : p.tables.exec = Jvm.exec) (hb : c.code = cc) (hK : va_K D cl tys s) (hP : va_P D cl ws H) (q0 t0 : Nat) {cA : ClassId} {n : Nat} {f : Nat → UInt64} (ha : ws[q0]? = some (a, .inl (cA, n, .inr (.inr (.inr (.inl f)))))) (ht : tys[t0]? = some (cA, .double)) {i : Int32} {x : UInt64} (hout : ¬ vp_in i n) (hdg : decode cc pc = .ok (.dastore, 1))
    (k : ∀ tx : String, tx = (toString "Index " ++ toString i ++ toString " out of bounds for length " ++ toString n : String) → vx_Note p l e R s m args below meth c H locs cells slots Q (F0 m pc ls rest) "java/lang/ArrayIndexOutOfBoundsException" tx) : W p l e R s m args below meth c H locs cells slots Q (F0 m pc ls (.double x :: .int i :: .ref a :: rest)) := by
  intro T hT X
  obtain ⟨t, st, q⟩ := k _ rfl T hT X
  refine ⟨t, ?_, q⟩
  have h1 := X.dastoreOut hexec (by rw [hT]; exact hP q0 _ ha) ((hK.2 t0 _ ht).1 n (fun j => .double (f j))) (j := i) (by show (i < 0 ∨ (arrV _ _ _).slots.size ≤ _); rw [arrV_size]; exact Classical.byContradiction hout) (g := F0 m pc ls (.double x :: .int i :: .ref a :: rest)) rfl (rest := rest) rfl (by rw [hb]; exact hdg) t
  simp only [arrV_size] at h1
  exact h1 st
theorem vx_arraylengthN (hexec : p.tables.exec = Jvm.exec) (hb : c.code = cc) (hdg : decode cc pc = .ok (.arraylength, 1)) (k : vx_NoteN p l e R s m args below meth c H locs cells slots Q (F0 m pc ls rest)) : W p l e R s m args below meth c H locs cells slots Q (F0 m pc ls (.null :: rest)) := by
  intro T hT X
  obtain ⟨t, st, q⟩ := k T hT X
  exact ⟨t, X.arraylengthNull hexec (g := F0 m pc ls (.null :: rest)) rfl (rest := rest) rfl (by rw [hb]; exact hdg) t st, q⟩
theorem vx_ialoadN (hexec : p.tables.exec = Jvm.exec) (hb : c.code = cc) {i : Int32} (hdg : decode cc pc = .ok (.iaload, 1)) (k : vx_NoteN p l e R s m args below meth c H locs cells slots Q (F0 m pc ls rest)) : W p l e R s m args below meth c H locs cells slots Q (F0 m pc ls (.int i :: .null :: rest)) := by
  intro T hT X
  obtain ⟨t, st, q⟩ := k T hT X
  exact ⟨t, X.ialoadNull hexec (g := F0 m pc ls (.int i :: .null :: rest)) rfl (rest := rest) rfl (by rw [hb]; exact hdg) t st, q⟩
theorem vx_laloadN (hexec : p.tables.exec = Jvm.exec) (hb : c.code = cc) {i : Int32} (hdg : decode cc pc = .ok (.laload, 1)) (k : vx_NoteN p l e R s m args below meth c H locs cells slots Q (F0 m pc ls rest)) : W p l e R s m args below meth c H locs cells slots Q (F0 m pc ls (.int i :: .null :: rest)) := by
  intro T hT X
  obtain ⟨t, st, q⟩ := k T hT X
  exact ⟨t, X.laloadNull hexec (g := F0 m pc ls (.int i :: .null :: rest)) rfl (rest := rest) rfl (by rw [hb]; exact hdg) t st, q⟩
theorem vx_faloadN (hexec : p.tables.exec = Jvm.exec) (hb : c.code = cc) {i : Int32} (hdg : decode cc pc = .ok (.faload, 1)) (k : vx_NoteN p l e R s m args below meth c H locs cells slots Q (F0 m pc ls rest)) : W p l e R s m args below meth c H locs cells slots Q (F0 m pc ls (.int i :: .null :: rest)) := by
  intro T hT X
  obtain ⟨t, st, q⟩ := k T hT X
  exact ⟨t, X.faloadNull hexec (g := F0 m pc ls (.int i :: .null :: rest)) rfl (rest := rest) rfl (by rw [hb]; exact hdg) t st, q⟩
theorem vx_daloadN (hexec : p.tables.exec = Jvm.exec) (hb : c.code = cc) {i : Int32} (hdg : decode cc pc = .ok (.daload, 1)) (k : vx_NoteN p l e R s m args below meth c H locs cells slots Q (F0 m pc ls rest)) : W p l e R s m args below meth c H locs cells slots Q (F0 m pc ls (.int i :: .null :: rest)) := by
  intro T hT X
  obtain ⟨t, st, q⟩ := k T hT X
  exact ⟨t, X.daloadNull hexec (g := F0 m pc ls (.int i :: .null :: rest)) rfl (rest := rest) rfl (by rw [hb]; exact hdg) t st, q⟩
theorem vx_aaloadN (hexec : p.tables.exec = Jvm.exec) (hb : c.code = cc) {i : Int32} (hdg : decode cc pc = .ok (.aaload, 1)) (k : vx_NoteN p l e R s m args below meth c H locs cells slots Q (F0 m pc ls rest)) : W p l e R s m args below meth c H locs cells slots Q (F0 m pc ls (.int i :: .null :: rest)) := by
  intro T hT X
  obtain ⟨t, st, q⟩ := k T hT X
  exact ⟨t, X.aaloadNull hexec (g := F0 m pc ls (.int i :: .null :: rest)) rfl (rest := rest) rfl (by rw [hb]; exact hdg) t st, q⟩
theorem vx_baloadN (hexec : p.tables.exec = Jvm.exec) (hb : c.code = cc) {i : Int32} (hdg : decode cc pc = .ok (.baload, 1)) (k : vx_NoteN p l e R s m args below meth c H locs cells slots Q (F0 m pc ls rest)) : W p l e R s m args below meth c H locs cells slots Q (F0 m pc ls (.int i :: .null :: rest)) := by
  intro T hT X
  obtain ⟨t, st, q⟩ := k T hT X
  exact ⟨t, X.baloadNull hexec (g := F0 m pc ls (.int i :: .null :: rest)) rfl (rest := rest) rfl (by rw [hb]; exact hdg) t st, q⟩
theorem vx_caloadN (hexec : p.tables.exec = Jvm.exec) (hb : c.code = cc) {i : Int32} (hdg : decode cc pc = .ok (.caload, 1)) (k : vx_NoteN p l e R s m args below meth c H locs cells slots Q (F0 m pc ls rest)) : W p l e R s m args below meth c H locs cells slots Q (F0 m pc ls (.int i :: .null :: rest)) := by
  intro T hT X
  obtain ⟨t, st, q⟩ := k T hT X
  exact ⟨t, X.caloadNull hexec (g := F0 m pc ls (.int i :: .null :: rest)) rfl (rest := rest) rfl (by rw [hb]; exact hdg) t st, q⟩
theorem vx_saloadN (hexec : p.tables.exec = Jvm.exec) (hb : c.code = cc) {i : Int32} (hdg : decode cc pc = .ok (.saload, 1)) (k : vx_NoteN p l e R s m args below meth c H locs cells slots Q (F0 m pc ls rest)) : W p l e R s m args below meth c H locs cells slots Q (F0 m pc ls (.int i :: .null :: rest)) := by
  intro T hT X
  obtain ⟨t, st, q⟩ := k T hT X
  exact ⟨t, X.saloadNull hexec (g := F0 m pc ls (.int i :: .null :: rest)) rfl (rest := rest) rfl (by rw [hb]; exact hdg) t st, q⟩
theorem vx_iastoreN (hexec : p.tables.exec = Jvm.exec) (hb : c.code = cc) {x : Int32} {i : Int32} (hdg : decode cc pc = .ok (.iastore, 1)) (k : vx_NoteN p l e R s m args below meth c H locs cells slots Q (F0 m pc ls rest)) : W p l e R s m args below meth c H locs cells slots Q (F0 m pc ls (.int x :: .int i :: .null :: rest)) := by
  intro T hT X
  obtain ⟨t, st, q⟩ := k T hT X
  exact ⟨t, X.iastoreNull hexec (g := F0 m pc ls (.int x :: .int i :: .null :: rest)) rfl (rest := rest) rfl (by rw [hb]; exact hdg) t st, q⟩
theorem vx_lastoreN (hexec : p.tables.exec = Jvm.exec) (hb : c.code = cc) {x : Int64} {i : Int32} (hdg : decode cc pc = .ok (.lastore, 1)) (k : vx_NoteN p l e R s m args below meth c H locs cells slots Q (F0 m pc ls rest)) : W p l e R s m args below meth c H locs cells slots Q (F0 m pc ls (.long x :: .int i :: .null :: rest)) := by
  intro T hT X
  obtain ⟨t, st, q⟩ := k T hT X
  exact ⟨t, X.lastoreNull hexec (g := F0 m pc ls (.long x :: .int i :: .null :: rest)) rfl (rest := rest) rfl (by rw [hb]; exact hdg) t st, q⟩
theorem vx_fastoreN (hexec : p.tables.exec = Jvm.exec) (hb : c.code = cc) {x : UInt32} {i : Int32} (hdg : decode cc pc = .ok (.fastore, 1)) (k : vx_NoteN p l e R s m args below meth c H locs cells slots Q (F0 m pc ls rest)) : W p l e R s m args below meth c H locs cells slots Q (F0 m pc ls (.float x :: .int i :: .null :: rest)) := by
  intro T hT X
  obtain ⟨t, st, q⟩ := k T hT X
  exact ⟨t, X.fastoreNull hexec (g := F0 m pc ls (.float x :: .int i :: .null :: rest)) rfl (rest := rest) rfl (by rw [hb]; exact hdg) t st, q⟩
theorem vx_dastoreN (hexec : p.tables.exec = Jvm.exec) (hb : c.code = cc) {x : UInt64} {i : Int32} (hdg : decode cc pc = .ok (.dastore, 1)) (k : vx_NoteN p l e R s m args below meth c H locs cells slots Q (F0 m pc ls rest)) : W p l e R s m args below meth c H locs cells slots Q (F0 m pc ls (.double x :: .int i :: .null :: rest)) := by
  intro T hT X
  obtain ⟨t, st, q⟩ := k T hT X
  exact ⟨t, X.dastoreNull hexec (g := F0 m pc ls (.double x :: .int i :: .null :: rest)) rfl (rest := rest) rfl (by rw [hb]; exact hdg) t st, q⟩
theorem vx_bastoreN (hexec : p.tables.exec = Jvm.exec) (hb : c.code = cc) {x : Int32} {i : Int32} (hdg : decode cc pc = .ok (.bastore, 1)) (k : vx_NoteN p l e R s m args below meth c H locs cells slots Q (F0 m pc ls rest)) : W p l e R s m args below meth c H locs cells slots Q (F0 m pc ls (.int x :: .int i :: .null :: rest)) := by
  intro T hT X
  obtain ⟨t, st, q⟩ := k T hT X
  exact ⟨t, X.bastoreNull hexec (g := F0 m pc ls (.int x :: .int i :: .null :: rest)) rfl (rest := rest) rfl (by rw [hb]; exact hdg) t st, q⟩
theorem vx_castoreN (hexec : p.tables.exec = Jvm.exec) (hb : c.code = cc) {x : Int32} {i : Int32} (hdg : decode cc pc = .ok (.castore, 1)) (k : vx_NoteN p l e R s m args below meth c H locs cells slots Q (F0 m pc ls rest)) : W p l e R s m args below meth c H locs cells slots Q (F0 m pc ls (.int x :: .int i :: .null :: rest)) := by
  intro T hT X
  obtain ⟨t, st, q⟩ := k T hT X
  exact ⟨t, X.castoreNull hexec (g := F0 m pc ls (.int x :: .int i :: .null :: rest)) rfl (rest := rest) rfl (by rw [hb]; exact hdg) t st, q⟩
theorem vx_sastoreN (hexec : p.tables.exec = Jvm.exec) (hb : c.code = cc) {x : Int32} {i : Int32} (hdg : decode cc pc = .ok (.sastore, 1)) (k : vx_NoteN p l e R s m args below meth c H locs cells slots Q (F0 m pc ls rest)) : W p l e R s m args below meth c H locs cells slots Q (F0 m pc ls (.int x :: .int i :: .null :: rest)) := by
  intro T hT X
  obtain ⟨t, st, q⟩ := k T hT X
  exact ⟨t, X.sastoreNull hexec (g := F0 m pc ls (.int x :: .int i :: .null :: rest)) rfl (rest := rest) rfl (by rw [hb]; exact hdg) t st, q⟩
theorem vx_invokeN {own C : String} {index maxL : Nat} {y : MethodName} {bytes : ByteArray} {ret : Option FieldType} (hexec : p.tables.exec = Jvm.exec) (hb : c.code = cc) (hown : s.vm.findClass own = some m.cls) (hlink : (Cond.methodLink own index y).before args s = true) (hinst : (Cond.instanceMethod y).before args s = true) (hcode : (Cond.code y bytes maxL ret).before args s = true) (hsel : (Cond.selects C y y).before args s = true)
    (hx : y.cls ≠ "java/lang/invoke/MethodHandle" ∧ y.cls ≠ "java/lang/invoke/VarHandle") {As : List Value} (hlen : (parseMethodDescriptor y.desc).map (fun d => d.parameters.length) = some As.length) (hdg : decode cc pc = .ok (.invokevirtual index, 3))
    (k : vx_NoteN p l e R s m args below meth c H locs cells slots Q (F0 m pc ls rest)) {st0 : List Value} (hst : st0 = As.reverse ++ .null :: rest) : W p l e R s m args below meth c H locs cells slots Q (F0 m pc ls st0) := by
  intro T hT X
  obtain ⟨r0, r, hn, hrm, hstR, hsigR⟩ := va_Decl.of hinst hcode
  obtain ⟨c2, r2, m2, q1, q2, q3, q4, kP, hkP, hkPi⟩ := Cond.selects_spec hsel
  cases hn.symm.trans q3
  have hl9 : As.length = r.sig.parameters.length := by
    rw [hsigR] at hlen
    exact (Option.some.inj hlen).symm
  obtain ⟨vm', X1, st1⟩ := X.invokevirtualNull hexec hown hlink hn hrm hstR hkP hkPi hx (g := F0 m pc ls st0) rfl (argsL := As) (rest := rest) hl9 hst (by rw [hb]; exact hdg)
  obtain ⟨t, st, q⟩ := k (T.setVm vm') hT X1
  exact ⟨t, st1 t st, q⟩
theorem vx_newarrayZ {atype : ArrayType} (hexec : p.tables.exec = Jvm.exec) (hb : c.code = cc) {n : Int32} (h0 : n < 0) (hdg : decode cc pc = .ok (.newarray atype, 2)) (k : ∀ tx : String, tx = toString n → vx_Note p l e R s m args below meth c H locs cells slots Q (F0 m pc ls rest) "java/lang/NegativeArraySizeException" tx) : W p l e R s m args below meth c H locs cells slots Q (F0 m pc ls (.int n :: rest)) := by
  intro T hT X
  obtain ⟨t, st, q⟩ := k _ rfl T hT X
  exact ⟨t, X.newarrayNegative hexec (g := F0 m pc ls (.int n :: rest)) rfl h0 (rest := rest) rfl (by rw [hb]; exact hdg) t st, q⟩
end
end VXM
/-! ===== END ===== -/
end
section
/-! ===== BEGIN printed: names, fields, word lists, decode rows ===== -/
def RX0 : String := "BellTelegraph$Command"
def TX0 : u_T := fun k => match k with
  | 0 => ("BellTelegraph$Command", "kind", "I", false)
  | 1 => ("BellTelegraph$Command", "first", "I", false)
  | 2 => ("BellTelegraph$Command", "second", "I", false)
  | _ => ("BellTelegraph$Command", "third", "I", false)
def tyX0 : Nat → FieldType := fun k => match k with
  | 0 => .int
  | 1 => .int
  | 2 => .int
  | _ => .int
abbrev wsX00 : List Cond := u_ws RX0 TX0 4
theorem nmX0 : ∀ a, a < 4 → ∀ b, b < 4 → a ≠ b → (TX0 a).2.1 ≠ (TX0 b).2.1 := by decide +kernel
theorem tyX0_ok : ∀ k, k < 4 → parseFieldDescriptor (TX0 k).2.2.1 = some (tyX0 k) := by decide +kernel
abbrev cX0_init : ByteArray := prog_2_method_1_code
def yX0_init : MethodName := ⟨RX0, "<init>", "()V"⟩
abbrev cX0_set : ByteArray := prog_2_method_2_code
def yX0_set : MethodName := ⟨RX0, "set", "(IIII)V"⟩
def RX1 : String := "BellTelegraph$CommandText"
def TX1 : u_T := fun k => match k with
  | 0 => ("BellTelegraph$CommandText", "characters", "[C", true)
  | 1 => ("BellTelegraph$CommandText", "length", "I", false)
  | 2 => ("BellTelegraph$CommandText", "commands", "[LBellTelegraph$Command;", true)
  | 3 => ("BellTelegraph$CommandText", "commandCount", "I", false)
  | _ => ("BellTelegraph$CommandText", "position", "I", false)
def tyX1 : Nat → FieldType := fun k => match k with
  | 0 => .array .char
  | 1 => .int
  | 2 => .array (.object "BellTelegraph$Command")
  | 3 => .int
  | _ => .int
abbrev wsX10 : List Cond := u_ws RX1 TX1 5
theorem nmX1 : ∀ a, a < 5 → ∀ b, b < 5 → a ≠ b → (TX1 a).2.1 ≠ (TX1 b).2.1 := by decide +kernel
theorem tyX1_ok : ∀ k, k < 5 → parseFieldDescriptor (TX1 k).2.2.1 = some (tyX1 k) := by decide +kernel
abbrev cX1_init : ByteArray := prog_3_method_1_code
def yX1_init : MethodName := ⟨RX1, "<init>", "()V"⟩
abbrev cX1_add : ByteArray := prog_3_method_2_code
def yX1_add : MethodName := ⟨RX1, "add", "(C)V"⟩
abbrev cX1_read : ByteArray := prog_3_method_3_code
def yX1_read : MethodName := ⟨RX1, "read", "()I"⟩
abbrev cX1_readCommand : ByteArray := prog_3_method_4_code
def yX1_readCommand : MethodName := ⟨RX1, "readCommand", "()Z"⟩
abbrev cX1_readSend : ByteArray := prog_3_method_5_code
def yX1_readSend : MethodName := ⟨RX1, "readSend", "(LBellTelegraph$Command;)Z"⟩
abbrev cX1_readOneNumber : ByteArray := prog_3_method_6_code
def yX1_readOneNumber : MethodName := ⟨RX1, "readOneNumber", "(LBellTelegraph$Command;I)Z"⟩
abbrev cX1_readSilence : ByteArray := prog_3_method_7_code
def yX1_readSilence : MethodName := ⟨RX1, "readSilence", "(LBellTelegraph$Command;)Z"⟩
abbrev cX1_readSetting : ByteArray := prog_3_method_8_code
def yX1_readSetting : MethodName := ⟨RX1, "readSetting", "(LBellTelegraph$Command;I)Z"⟩
abbrev cX1_nextCharacter : ByteArray := prog_3_method_9_code
def yX1_nextCharacter : MethodName := ⟨RX1, "nextCharacter", "()I"⟩
abbrev cX1_readCharacter : ByteArray := prog_3_method_10_code
def yX1_readCharacter : MethodName := ⟨RX1, "readCharacter", "(C)Z"⟩
abbrev cX1_readDigit : ByteArray := prog_3_method_11_code
def yX1_readDigit : MethodName := ⟨RX1, "readDigit", "(II)I"⟩
abbrev cX1_readNumber : ByteArray := prog_3_method_12_code
def yX1_readNumber : MethodName := ⟨RX1, "readNumber", "()I"⟩
abbrev cX1_readSigns : ByteArray := prog_3_method_13_code
def yX1_readSigns : MethodName := ⟨RX1, "readSigns", "()I"⟩
def RX2 : String := "BellTelegraph$Convent"
def TX2 : u_T := fun k => match k with
  | 0 => ("BellTelegraph$Convent", "tone", "I", false)
  | 1 => ("BellTelegraph$Convent", "ear", "I", false)
  | 2 => ("BellTelegraph$Convent", "silentFrom", "I", false)
  | 3 => ("BellTelegraph$Convent", "silentUntil", "I", false)
  | 4 => ("BellTelegraph$Convent", "hoursRung", "I", false)
  | 5 => ("BellTelegraph$Convent", "signsLost", "I", false)
  | 6 => ("BellTelegraph$Convent", "waitingCount", "I", false)
  | _ => ("BellTelegraph$Convent", "queue", "[I", true)
def tyX2 : Nat → FieldType := fun k => match k with
  | 0 => .int
  | 1 => .int
  | 2 => .int
  | 3 => .int
  | 4 => .int
  | 5 => .int
  | 6 => .int
  | _ => .array .int
abbrev wsX20 : List Cond := u_ws RX2 TX2 8
theorem nmX2 : ∀ a, a < 8 → ∀ b, b < 8 → a ≠ b → (TX2 a).2.1 ≠ (TX2 b).2.1 := by decide +kernel
theorem tyX2_ok : ∀ k, k < 8 → parseFieldDescriptor (TX2 k).2.2.1 = some (tyX2 k) := by decide +kernel
abbrev cX2_init : ByteArray := prog_4_method_1_code
def yX2_init : MethodName := ⟨RX2, "<init>", "()V"⟩
abbrev cX2_begin : ByteArray := prog_4_method_2_code
def yX2_begin : MethodName := ⟨RX2, "begin", "(II)V"⟩
abbrev cX2_takeFrom : ByteArray := prog_4_method_3_code
def yX2_takeFrom : MethodName := ⟨RX2, "takeFrom", "(LBellTelegraph$Convent;)V"⟩
abbrev cX2_isSilentAt : ByteArray := prog_4_method_4_code
def yX2_isSilentAt : MethodName := ⟨RX2, "isSilentAt", "(I)Z"⟩
abbrev cX2_firstWaiting : ByteArray := prog_4_method_5_code
def yX2_firstWaiting : MethodName := ⟨RX2, "firstWaiting", "()I"⟩
abbrev cX2_join : ByteArray := prog_4_method_6_code
def yX2_join : MethodName := ⟨RX2, "join", "(I)V"⟩
abbrev cX2_leave : ByteArray := prog_4_method_7_code
def yX2_leave : MethodName := ⟨RX2, "leave", "(I)V"⟩
def RX3 : String := "BellTelegraph$History"
def TX3 : u_T := fun k => match k with
  | 0 => ("BellTelegraph$History", "rows", "[LBellTelegraph$Network;", true)
  | 1 => ("BellTelegraph$History", "spareRow", "I", false)
  | _ => ("BellTelegraph$History", "kept", "I", false)
def tyX3 : Nat → FieldType := fun k => match k with
  | 0 => .array (.object "BellTelegraph$Network")
  | 1 => .int
  | _ => .int
abbrev wsX30 : List Cond := u_ws RX3 TX3 3
theorem nmX3 : ∀ a, a < 3 → ∀ b, b < 3 → a ≠ b → (TX3 a).2.1 ≠ (TX3 b).2.1 := by decide +kernel
theorem tyX3_ok : ∀ k, k < 3 → parseFieldDescriptor (TX3 k).2.2.1 = some (tyX3 k) := by decide +kernel
abbrev cX3_init : ByteArray := prog_5_method_1_code
def yX3_init : MethodName := ⟨RX3, "<init>", "()V"⟩
abbrev cX3_spare : ByteArray := prog_5_method_2_code
def yX3_spare : MethodName := ⟨RX3, "spare", "()LBellTelegraph$Network;"⟩
abbrev cX3_keepSpare : ByteArray := prog_5_method_3_code
def yX3_keepSpare : MethodName := ⟨RX3, "keepSpare", "()V"⟩
abbrev cX3_takeLatest : ByteArray := prog_5_method_4_code
def yX3_takeLatest : MethodName := ⟨RX3, "takeLatest", "()LBellTelegraph$Network;"⟩
def RX4 : String := "BellTelegraph$Message"
def TX4 : u_T := fun k => match k with
  | 0 => ("BellTelegraph$Message", "from", "I", false)
  | 1 => ("BellTelegraph$Message", "to", "I", false)
  | 2 => ("BellTelegraph$Message", "at", "I", false)
  | 3 => ("BellTelegraph$Message", "how", "I", false)
  | 4 => ("BellTelegraph$Message", "hourSent", "I", false)
  | 5 => ("BellTelegraph$Message", "place", "I", false)
  | 6 => ("BellTelegraph$Message", "hoursRung", "I", false)
  | 7 => ("BellTelegraph$Message", "isHeard", "Z", false)
  | 8 => ("BellTelegraph$Message", "signCount", "I", false)
  | _ => ("BellTelegraph$Message", "signs", "[I", true)
def tyX4 : Nat → FieldType := fun k => match k with
  | 0 => .int
  | 1 => .int
  | 2 => .int
  | 3 => .int
  | 4 => .int
  | 5 => .int
  | 6 => .int
  | 7 => .boolean
  | 8 => .int
  | _ => .array .int
abbrev wsX40 : List Cond := u_ws RX4 TX4 10
theorem nmX4 : ∀ a, a < 10 → ∀ b, b < 10 → a ≠ b → (TX4 a).2.1 ≠ (TX4 b).2.1 := by decide +kernel
theorem tyX4_ok : ∀ k, k < 10 → parseFieldDescriptor (TX4 k).2.2.1 = some (tyX4 k) := by decide +kernel
abbrev cX4_init : ByteArray := prog_6_method_1_code
def yX4_init : MethodName := ⟨RX4, "<init>", "()V"⟩
abbrev cX4_begin : ByteArray := prog_6_method_2_code
def yX4_begin : MethodName := ⟨RX4, "begin", "(III)V"⟩
abbrev cX4_takeFrom : ByteArray := prog_6_method_3_code
def yX4_takeFrom : MethodName := ⟨RX4, "takeFrom", "(LBellTelegraph$Message;)V"⟩
abbrev cX4_makeDue : ByteArray := prog_6_method_4_code
def yX4_makeDue : MethodName := ⟨RX4, "makeDue", "(I)V"⟩
abbrev cX4_isRungOut : ByteArray := prog_6_method_5_code
def yX4_isRungOut : MethodName := ⟨RX4, "isRungOut", "()Z"⟩
abbrev cX4_dueSign : ByteArray := prog_6_method_6_code
def yX4_dueSign : MethodName := ⟨RX4, "dueSign", "()I"⟩
abbrev cX4_loseDueSign : ByteArray := prog_6_method_7_code
def yX4_loseDueSign : MethodName := ⟨RX4, "loseDueSign", "()V"⟩
abbrev cX4_nextFrom : ByteArray := prog_6_method_8_code
def yX4_nextFrom : MethodName := ⟨RX4, "nextFrom", "(I)I"⟩
abbrev cX4_lostSigns : ByteArray := prog_6_method_9_code
def yX4_lostSigns : MethodName := ⟨RX4, "lostSigns", "()I"⟩
def RX5 : String := "BellTelegraph$Network"
def TX5 : u_T := fun k => match k with
  | 0 => ("BellTelegraph$Network", "hour", "I", false)
  | 1 => ("BellTelegraph$Network", "conventCount", "I", false)
  | 2 => ("BellTelegraph$Network", "convents", "[LBellTelegraph$Convent;", true)
  | 3 => ("BellTelegraph$Network", "ridges", "[LBellTelegraph$Ridge;", true)
  | 4 => ("BellTelegraph$Network", "psalms", "[I", true)
  | 5 => ("BellTelegraph$Network", "messageCount", "I", false)
  | 6 => ("BellTelegraph$Network", "messages", "[LBellTelegraph$Message;", true)
  | 7 => ("BellTelegraph$Network", "arrivedCount", "I", false)
  | 8 => ("BellTelegraph$Network", "arrivals", "[I", true)
  | _ => ("BellTelegraph$Network", "spelled", "[I", true)
def tyX5 : Nat → FieldType := fun k => match k with
  | 0 => .int
  | 1 => .int
  | 2 => .array (.object "BellTelegraph$Convent")
  | 3 => .array (.object "BellTelegraph$Ridge")
  | 4 => .array .int
  | 5 => .int
  | 6 => .array (.object "BellTelegraph$Message")
  | 7 => .int
  | 8 => .array .int
  | _ => .array .int
abbrev wsX50 : List Cond := u_ws RX5 TX5 10
theorem nmX5 : ∀ a, a < 10 → ∀ b, b < 10 → a ≠ b → (TX5 a).2.1 ≠ (TX5 b).2.1 := by decide +kernel
theorem tyX5_ok : ∀ k, k < 10 → parseFieldDescriptor (TX5 k).2.2.1 = some (tyX5 k) := by decide +kernel
abbrev cX5_init : ByteArray := prog_7_method_1_code
def yX5_init : MethodName := ⟨RX5, "<init>", "()V"⟩
abbrev cX5_takeFrom : ByteArray := prog_7_method_2_code
def yX5_takeFrom : MethodName := ⟨RX5, "takeFrom", "(LBellTelegraph$Network;)V"⟩
abbrev cX5_hasConvent : ByteArray := prog_7_method_3_code
def yX5_hasConvent : MethodName := ⟨RX5, "hasConvent", "(I)Z"⟩
abbrev cX5_hasRidge : ByteArray := prog_7_method_4_code
def yX5_hasRidge : MethodName := ⟨RX5, "hasRidge", "(I)Z"⟩
abbrev cX5_hasMessage : ByteArray := prog_7_method_5_code
def yX5_hasMessage : MethodName := ⟨RX5, "hasMessage", "(I)Z"⟩
abbrev cX5_hourOfDay : ByteArray := prog_7_method_6_code
def yX5_hourOfDay : MethodName := ⟨RX5, "hourOfDay", "()I"⟩
abbrev cX5_carryOut : ByteArray := prog_7_method_7_code
def yX5_carryOut : MethodName := ⟨RX5, "carryOut", "(LBellTelegraph$Command;LBellTelegraph$Refusal;)I"⟩
abbrev cX5_addConvent : ByteArray := prog_7_method_8_code
def yX5_addConvent : MethodName := ⟨RX5, "addConvent", "(IIILBellTelegraph$Refusal;)I"⟩
abbrev cX5_givePsalm : ByteArray := prog_7_method_9_code
def yX5_givePsalm : MethodName := ⟨RX5, "givePsalm", "(IILBellTelegraph$Refusal;)I"⟩
abbrev cX5_setSilence : ByteArray := prog_7_method_10_code
def yX5_setSilence : MethodName := ⟨RX5, "setSilence", "(IIILBellTelegraph$Refusal;)I"⟩
abbrev cX5_setWind : ByteArray := prog_7_method_11_code
def yX5_setWind : MethodName := ⟨RX5, "setWind", "(IILBellTelegraph$Refusal;)I"⟩
abbrev cX5_setEar : ByteArray := prog_7_method_12_code
def yX5_setEar : MethodName := ⟨RX5, "setEar", "(IILBellTelegraph$Refusal;)I"⟩
abbrev cX5_addMessage : ByteArray := prog_7_method_13_code
def yX5_addMessage : MethodName := ⟨RX5, "addMessage", "(IIILBellTelegraph$Refusal;)I"⟩
abbrev cX5_spell : ByteArray := prog_7_method_14_code
def yX5_spell : MethodName := ⟨RX5, "spell", "(I)I"⟩
abbrev cX5_dropMessage : ByteArray := prog_7_method_15_code
def yX5_dropMessage : MethodName := ⟨RX5, "dropMessage", "(ILBellTelegraph$Refusal;)I"⟩
abbrev cX5_passHours : ByteArray := prog_7_method_16_code
def yX5_passHours : MethodName := ⟨RX5, "passHours", "(ILBellTelegraph$Refusal;)I"⟩
abbrev cX5_passHour : ByteArray := prog_7_method_17_code
def yX5_passHour : MethodName := ⟨RX5, "passHour", "()V"⟩
abbrev cX5_ring : ByteArray := prog_7_method_18_code
def yX5_ring : MethodName := ⟨RX5, "ring", "(LBellTelegraph$Message;IZ)V"⟩
abbrev cX5_hoursOf : ByteArray := prog_7_method_19_code
def yX5_hoursOf : MethodName := ⟨RX5, "hoursOf", "(I)I"⟩
abbrev cX5_moveOn : ByteArray := prog_7_method_20_code
def yX5_moveOn : MethodName := ⟨RX5, "moveOn", "(LBellTelegraph$Message;II)V"⟩
abbrev cX5_arrive : ByteArray := prog_7_method_21_code
def yX5_arrive : MethodName := ⟨RX5, "arrive", "(LBellTelegraph$Message;I)V"⟩
abbrev cX5_beginNextHour : ByteArray := prog_7_method_22_code
def yX5_beginNextHour : MethodName := ⟨RX5, "beginNextHour", "()V"⟩
abbrev cX5_strengthBetween : ByteArray := prog_7_method_23_code
def yX5_strengthBetween : MethodName := ⟨RX5, "strengthBetween", "(II)I"⟩
abbrev cX5_isHeardBetween : ByteArray := prog_7_method_24_code
def yX5_isHeardBetween : MethodName := ⟨RX5, "isHeardBetween", "(II)Z"⟩
abbrev cX5_countAheadInRank : ByteArray := prog_7_method_25_code
def yX5_countAheadInRank : MethodName := ⟨RX5, "countAheadInRank", "(I)I"⟩
abbrev cX5_isAheadInRank : ByteArray := prog_7_method_26_code
def yX5_isAheadInRank : MethodName := ⟨RX5, "isAheadInRank", "(II)Z"⟩
abbrev cX5_countSignsWithPsalm : ByteArray := prog_7_method_27_code
def yX5_countSignsWithPsalm : MethodName := ⟨RX5, "countSignsWithPsalm", "()I"⟩
abbrev cX5_countMessages : ByteArray := prog_7_method_28_code
def yX5_countMessages : MethodName := ⟨RX5, "countMessages", "(I)I"⟩
abbrev cX5_countHoursRung : ByteArray := prog_7_method_29_code
def yX5_countHoursRung : MethodName := ⟨RX5, "countHoursRung", "()I"⟩
abbrev cX5_countSilentConvents : ByteArray := prog_7_method_30_code
def yX5_countSilentConvents : MethodName := ⟨RX5, "countSilentConvents", "()I"⟩
def RX6 : String := "BellTelegraph$Refusal"
def TX6 : u_T := fun k => match k with
  | 0 => ("BellTelegraph$Refusal", "reason", "I", false)
  | 1 => ("BellTelegraph$Refusal", "detail", "I", false)
  | _ => ("BellTelegraph$Refusal", "command", "I", false)
def tyX6 : Nat → FieldType := fun k => match k with
  | 0 => .int
  | 1 => .int
  | _ => .int
abbrev wsX60 : List Cond := u_ws RX6 TX6 3
theorem nmX6 : ∀ a, a < 3 → ∀ b, b < 3 → a ≠ b → (TX6 a).2.1 ≠ (TX6 b).2.1 := by decide +kernel
theorem tyX6_ok : ∀ k, k < 3 → parseFieldDescriptor (TX6 k).2.2.1 = some (tyX6 k) := by decide +kernel
abbrev cX6_init : ByteArray := prog_8_method_1_code
def yX6_init : MethodName := ⟨RX6, "<init>", "()V"⟩
abbrev cX6_because : ByteArray := prog_8_method_2_code
def yX6_because : MethodName := ⟨RX6, "because", "(II)I"⟩
def RX7 : String := "BellTelegraph$Ridge"
def TX7 : u_T := fun k => match k with
  | 0 => ("BellTelegraph$Ridge", "length", "I", false)
  | _ => ("BellTelegraph$Ridge", "wind", "I", false)
def tyX7 : Nat → FieldType := fun k => match k with
  | 0 => .int
  | _ => .int
abbrev wsX70 : List Cond := u_ws RX7 TX7 2
theorem nmX7 : ∀ a, a < 2 → ∀ b, b < 2 → a ≠ b → (TX7 a).2.1 ≠ (TX7 b).2.1 := by decide +kernel
theorem tyX7_ok : ∀ k, k < 2 → parseFieldDescriptor (TX7 k).2.2.1 = some (tyX7 k) := by decide +kernel
abbrev cX7_init : ByteArray := prog_9_method_1_code
def yX7_init : MethodName := ⟨RX7, "<init>", "()V"⟩
def RX8 : String := "BellTelegraph"
def TX8 : u_T := fun k => match k with
  | 0 => ("BellTelegraph", "now", "LBellTelegraph$Network;", true)
  | 1 => ("BellTelegraph", "trial", "LBellTelegraph$Network;", true)
  | 2 => ("BellTelegraph", "saved", "LBellTelegraph$Network;", true)
  | 3 => ("BellTelegraph", "isSaved", "Z", false)
  | 4 => ("BellTelegraph", "history", "LBellTelegraph$History;", true)
  | 5 => ("BellTelegraph", "refusal", "LBellTelegraph$Refusal;", true)
  | 6 => ("BellTelegraph", "single", "LBellTelegraph$Command;", true)
  | 7 => ("BellTelegraph", "text", "LBellTelegraph$CommandText;", true)
  | 8 => ("BellTelegraph", "faultPosition", "I", false)
  | 9 => ("BellTelegraph", "line", "[C", true)
  | _ => ("BellTelegraph", "lineLength", "I", false)
def tyX8 : Nat → FieldType := fun k => match k with
  | 0 => .object "BellTelegraph$Network"
  | 1 => .object "BellTelegraph$Network"
  | 2 => .object "BellTelegraph$Network"
  | 3 => .boolean
  | 4 => .object "BellTelegraph$History"
  | 5 => .object "BellTelegraph$Refusal"
  | 6 => .object "BellTelegraph$Command"
  | 7 => .object "BellTelegraph$CommandText"
  | 8 => .int
  | 9 => .array .char
  | _ => .int
abbrev wsX80 : List Cond := u_ws RX8 TX8 11
theorem nmX8 : ∀ a, a < 11 → ∀ b, b < 11 → a ≠ b → (TX8 a).2.1 ≠ (TX8 b).2.1 := by decide +kernel
theorem tyX8_ok : ∀ k, k < 11 → parseFieldDescriptor (TX8 k).2.2.1 = some (tyX8 k) := by decide +kernel
abbrev cX8_init : ByteArray := prog_1_method_1_code
def yX8_init : MethodName := ⟨RX8, "<init>", "()V"⟩
abbrev cX8_convent : ByteArray := prog_1_method_2_code
def yX8_convent : MethodName := ⟨RX8, "convent", "(III)I"⟩
abbrev cX8_code : ByteArray := prog_1_method_3_code
def yX8_code : MethodName := ⟨RX8, "code", "(II)I"⟩
abbrev cX8_silence : ByteArray := prog_1_method_4_code
def yX8_silence : MethodName := ⟨RX8, "silence", "(III)I"⟩
abbrev cX8_wind : ByteArray := prog_1_method_5_code
def yX8_wind : MethodName := ⟨RX8, "wind", "(II)I"⟩
abbrev cX8_ear : ByteArray := prog_1_method_6_code
def yX8_ear : MethodName := ⟨RX8, "ear", "(II)I"⟩
abbrev cX8_send : ByteArray := prog_1_method_7_code
def yX8_send : MethodName := ⟨RX8, "send", "(III)I"⟩
abbrev cX8_drop : ByteArray := prog_1_method_8_code
def yX8_drop : MethodName := ⟨RX8, "drop", "(I)I"⟩
abbrev cX8_hours : ByteArray := prog_1_method_9_code
def yX8_hours : MethodName := ⟨RX8, "hours", "(I)I"⟩
abbrev cX8_changeBySingle : ByteArray := prog_1_method_10_code
def yX8_changeBySingle : MethodName := ⟨RX8, "changeBySingle", "()I"⟩
abbrev cX8_conventOf : ByteArray := prog_1_method_11_code
def yX8_conventOf : MethodName := ⟨RX8, "conventOf", "(II)I"⟩
abbrev cX8_ridgeOf : ByteArray := prog_1_method_12_code
def yX8_ridgeOf : MethodName := ⟨RX8, "ridgeOf", "(II)I"⟩
abbrev cX8_psalm : ByteArray := prog_1_method_13_code
def yX8_psalm : MethodName := ⟨RX8, "psalm", "(I)I"⟩
abbrev cX8_strength : ByteArray := prog_1_method_14_code
def yX8_strength : MethodName := ⟨RX8, "strength", "(IZ)I"⟩
abbrev cX8_hears : ByteArray := prog_1_method_15_code
def yX8_hears : MethodName := ⟨RX8, "hears", "(IZ)Z"⟩
abbrev cX8_windIn : ByteArray := prog_1_method_16_code
def yX8_windIn : MethodName := ⟨RX8, "windIn", "(II)I"⟩
abbrev cX8_meanEar : ByteArray := prog_1_method_17_code
def yX8_meanEar : MethodName := ⟨RX8, "meanEar", "()F"⟩
abbrev cX8_askedConvent : ByteArray := prog_1_method_18_code
def yX8_askedConvent : MethodName := ⟨RX8, "askedConvent", "(I)LBellTelegraph$Convent;"⟩
abbrev cX8_askedRidge : ByteArray := prog_1_method_19_code
def yX8_askedRidge : MethodName := ⟨RX8, "askedRidge", "(I)LBellTelegraph$Ridge;"⟩
abbrev cX8_askedNeighbour : ByteArray := prog_1_method_20_code
def yX8_askedNeighbour : MethodName := ⟨RX8, "askedNeighbour", "(IZ)I"⟩
abbrev cX8_messageOf : ByteArray := prog_1_method_21_code
def yX8_messageOf : MethodName := ⟨RX8, "messageOf", "(II)I"⟩
abbrev cX8_sign : ByteArray := prog_1_method_22_code
def yX8_sign : MethodName := ⟨RX8, "sign", "(II)I"⟩
abbrev cX8_signs : ByteArray := prog_1_method_23_code
def yX8_signs : MethodName := ⟨RX8, "signs", "(I)I"⟩
abbrev cX8_waiting : ByteArray := prog_1_method_24_code
def yX8_waiting : MethodName := ⟨RX8, "waiting", "(II)I"⟩
abbrev cX8_arrived : ByteArray := prog_1_method_25_code
def yX8_arrived : MethodName := ⟨RX8, "arrived", "(I)I"⟩
abbrev cX8_arrivesIn : ByteArray := prog_1_method_26_code
def yX8_arrivesIn : MethodName := ⟨RX8, "arrivesIn", "(I)I"⟩
abbrev cX8_wouldLose : ByteArray := prog_1_method_27_code
def yX8_wouldLose : MethodName := ⟨RX8, "wouldLose", "(I)I"⟩
abbrev cX8_hoursUntilArrived : ByteArray := prog_1_method_28_code
def yX8_hoursUntilArrived : MethodName := ⟨RX8, "hoursUntilArrived", "(LBellTelegraph$Message;I)I"⟩
abbrev cX8_askedMessage : ByteArray := prog_1_method_29_code
def yX8_askedMessage : MethodName := ⟨RX8, "askedMessage", "(I)LBellTelegraph$Message;"⟩
abbrev cX8_ranked : ByteArray := prog_1_method_30_code
def yX8_ranked : MethodName := ⟨RX8, "ranked", "(I)I"⟩
abbrev cX8_lost : ByteArray := prog_1_method_31_code
def yX8_lost : MethodName := ⟨RX8, "lost", "()I"⟩
abbrev cX8_lostAgain : ByteArray := prog_1_method_32_code
def yX8_lostAgain : MethodName := ⟨RX8, "lostAgain", "()I"⟩
abbrev cX8_lostShare : ByteArray := prog_1_method_33_code
def yX8_lostShare : MethodName := ⟨RX8, "lostShare", "()D"⟩
abbrev cX8_append : ByteArray := prog_1_method_34_code
def yX8_append : MethodName := ⟨RX8, "append", "(C)I"⟩
abbrev cX8_commands : ByteArray := prog_1_method_35_code
def yX8_commands : MethodName := ⟨RX8, "commands", "()I"⟩
abbrev cX8_faultPosition : ByteArray := prog_1_method_36_code
def yX8_faultPosition : MethodName := ⟨RX8, "faultPosition", "()I"⟩
abbrev cX8_reason : ByteArray := prog_1_method_37_code
def yX8_reason : MethodName := ⟨RX8, "reason", "(I)I"⟩
abbrev cX8_line : ByteArray := prog_1_method_38_code
def yX8_line : MethodName := ⟨RX8, "line", "(I)I"⟩
abbrev cX8_writeDigit : ByteArray := prog_1_method_39_code
def yX8_writeDigit : MethodName := ⟨RX8, "writeDigit", "(I)V"⟩
abbrev cX8_write : ByteArray := prog_1_method_40_code
def yX8_write : MethodName := ⟨RX8, "write", "(C)V"⟩
abbrev cX8_character : ByteArray := prog_1_method_41_code
def yX8_character : MethodName := ⟨RX8, "character", "(I)C"⟩
abbrev cX8_account : ByteArray := prog_1_method_42_code
def yX8_account : MethodName := ⟨RX8, "account", "(I)I"⟩
abbrev cX8_undo : ByteArray := prog_1_method_43_code
def yX8_undo : MethodName := ⟨RX8, "undo", "()I"⟩
abbrev cX8_save : ByteArray := prog_1_method_44_code
def yX8_save : MethodName := ⟨RX8, "save", "()I"⟩
abbrev cX8_restore : ByteArray := prog_1_method_45_code
def yX8_restore : MethodName := ⟨RX8, "restore", "()I"⟩
abbrev cX8_isDigit : ByteArray := prog_1_method_46_code
def yX8_isDigit : MethodName := ⟨RX8, "isDigit", "(I)Z"⟩
abbrev cX8_isSign : ByteArray := prog_1_method_47_code
def yX8_isSign : MethodName := ⟨RX8, "isSign", "(I)Z"⟩
abbrev cX8_isHourOfDay : ByteArray := prog_1_method_48_code
def yX8_isHourOfDay : MethodName := ⟨RX8, "isHourOfDay", "(I)Z"⟩
abbrev cX8_turnedWind : ByteArray := prog_1_method_49_code
def yX8_turnedWind : MethodName := ⟨RX8, "turnedWind", "(II)I"⟩
def RX9 : String := "BellTelegraphModel"
def TX9 : u_T := fun k => match k with
  | _ => ("", "", "", false)
def tyX9 : Nat → FieldType := fun k => match k with
  | _ => .int
abbrev wsX90 : List Cond := u_ws RX9 TX9 0
theorem nmX9 : ∀ a, a < 0 → ∀ b, b < 0 → a ≠ b → (TX9 a).2.1 ≠ (TX9 b).2.1 := by decide +kernel
theorem tyX9_ok : ∀ k, k < 0 → parseFieldDescriptor (TX9 k).2.2.1 = some (tyX9 k) := by decide +kernel
def RJx145de : String := "java/io/Serializable"
def TJx145de : u_T := fun k => match k with
  | _ => ("", "", "", false)
def tyJx145de : Nat → FieldType := fun k => match k with
  | _ => .int
abbrev wsJx145de0 : List Cond := u_ws RJx145de TJx145de 0
theorem nmJx145de : ∀ a, a < 0 → ∀ b, b < 0 → a ≠ b → (TJx145de a).2.1 ≠ (TJx145de b).2.1 := by decide +kernel
theorem tyJx145de_ok : ∀ k, k < 0 → parseFieldDescriptor (TJx145de k).2.2.1 = some (tyJx145de k) := by decide +kernel
def RJ5 : String := "java/lang/AbstractStringBuilder"
def TJ5 : u_T := fun k => match k with
  | _ => ("", "", "", false)
def tyJ5 : Nat → FieldType := fun k => match k with
  | _ => .int
abbrev wsJ50 : List Cond := u_ws RJ5 TJ5 0
theorem nmJ5 : ∀ a, a < 0 → ∀ b, b < 0 → a ≠ b → (TJ5 a).2.1 ≠ (TJ5 b).2.1 := by decide +kernel
theorem tyJ5_ok : ∀ k, k < 0 → parseFieldDescriptor (TJ5 k).2.2.1 = some (tyJ5 k) := by decide +kernel
abbrev cJ5_init_d00df : ByteArray := prog_13_method_2_code
def yJ5_init_d00df : MethodName := ⟨RJ5, "<init>", "(I)V"⟩
abbrev cJ5_length_8abf5 : ByteArray := prog_13_method_6_code
def yJ5_length_8abf5 : MethodName := ⟨RJ5, "length", "()I"⟩
abbrev cJ5_ensureCapacityInternal_d00df : ByteArray := prog_13_method_9_code
def yJ5_ensureCapacityInternal_d00df : MethodName := ⟨RJ5, "ensureCapacityInternal", "(I)V"⟩
abbrev cJ5_newCapacity_0f7a4 : ByteArray := prog_13_method_10_code
def yJ5_newCapacity_0f7a4 : MethodName := ⟨RJ5, "newCapacity", "(I)I"⟩
abbrev cJ5_inflate_da8c8 : ByteArray := prog_13_method_11_code
def yJ5_inflate_da8c8 : MethodName := ⟨RJ5, "inflate", "()V"⟩
abbrev cJ5_append_cf1ce : ByteArray := prog_13_method_22_code
def yJ5_append_cf1ce : MethodName := ⟨RJ5, "append", "(Ljava/lang/String;)Ljava/lang/AbstractStringBuilder;"⟩
abbrev cJ5_appendNull_278bc : ByteArray := prog_13_method_26_code
def yJ5_appendNull_278bc : MethodName := ⟨RJ5, "appendNull", "()Ljava/lang/AbstractStringBuilder;"⟩
abbrev cJ5_append_c97b9 : ByteArray := prog_13_method_32_code
def yJ5_append_c97b9 : MethodName := ⟨RJ5, "append", "(I)Ljava/lang/AbstractStringBuilder;"⟩
abbrev cJ5_getValue_6d5f1 : ByteArray := prog_13_method_64_code
def yJ5_getValue_6d5f1 : MethodName := ⟨RJ5, "getValue", "()[B"⟩
abbrev cJ5_isLatin1_aae02 : ByteArray := prog_13_method_68_code
def yJ5_isLatin1_aae02 : MethodName := ⟨RJ5, "isLatin1", "()Z"⟩
abbrev cJ5_inflateIfNeededFor_a7421 : ByteArray := prog_13_method_71_code
def yJ5_inflateIfNeededFor_a7421 : MethodName := ⟨RJ5, "inflateIfNeededFor", "(Ljava/lang/String;)V"⟩
abbrev cJ5_putStringAt_47b60 : ByteArray := prog_13_method_73_code
def yJ5_putStringAt_47b60 : MethodName := ⟨RJ5, "putStringAt", "(ILjava/lang/String;)V"⟩
def RJx2cfe8 : String := "java/lang/Appendable"
def TJx2cfe8 : u_T := fun k => match k with
  | _ => ("", "", "", false)
def tyJx2cfe8 : Nat → FieldType := fun k => match k with
  | _ => .int
abbrev wsJx2cfe80 : List Cond := u_ws RJx2cfe8 TJx2cfe8 0
theorem nmJx2cfe8 : ∀ a, a < 0 → ∀ b, b < 0 → a ≠ b → (TJx2cfe8 a).2.1 ≠ (TJx2cfe8 b).2.1 := by decide +kernel
theorem tyJx2cfe8_ok : ∀ k, k < 0 → parseFieldDescriptor (TJx2cfe8 k).2.2.1 = some (tyJx2cfe8 k) := by decide +kernel
def RJx00060 : String := "java/lang/ArrayIndexOutOfBoundsException"
def TJx00060 : u_T := fun k => match k with
  | 0 => ("java/lang/Throwable", "backtrace", "Ljava/lang/Object;", false)
  | 1 => ("java/lang/Throwable", "detailMessage", "Ljava/lang/String;", false)
  | 2 => ("java/lang/Throwable", "cause", "Ljava/lang/Throwable;", false)
  | 3 => ("java/lang/Throwable", "stackTrace", "[Ljava/lang/StackTraceElement;", false)
  | 4 => ("java/lang/Throwable", "depth", "I", false)
  | _ => ("java/lang/Throwable", "suppressedExceptions", "Ljava/util/List;", false)
def tyJx00060 : Nat → FieldType := fun k => match k with
  | 0 => .object "java/lang/Object"
  | 1 => .object "java/lang/String"
  | 2 => .object "java/lang/Throwable"
  | 3 => .array (.object "java/lang/StackTraceElement")
  | 4 => .int
  | _ => .object "java/util/List"
abbrev wsJx000600 : List Cond := u_ws RJx00060 TJx00060 6
theorem nmJx00060 : ∀ a, a < 6 → ∀ b, b < 6 → a ≠ b → (TJx00060 a).2.1 ≠ (TJx00060 b).2.1 := by decide +kernel
theorem tyJx00060_ok : ∀ k, k < 6 → parseFieldDescriptor (TJx00060 k).2.2.1 = some (tyJx00060 k) := by decide +kernel
abbrev cJx00060_init_a7421 : ByteArray := prog_16_method_2_code
def yJx00060_init_a7421 : MethodName := ⟨RJx00060, "<init>", "(Ljava/lang/String;)V"⟩
def RJx9f9b0 : String := "java/lang/CharSequence"
def TJx9f9b0 : u_T := fun k => match k with
  | _ => ("", "", "", false)
def tyJx9f9b0 : Nat → FieldType := fun k => match k with
  | _ => .int
abbrev wsJx9f9b00 : List Cond := u_ws RJx9f9b0 TJx9f9b0 0
theorem nmJx9f9b0 : ∀ a, a < 0 → ∀ b, b < 0 → a ≠ b → (TJx9f9b0 a).2.1 ≠ (TJx9f9b0 b).2.1 := by decide +kernel
theorem tyJx9f9b0_ok : ∀ k, k < 0 → parseFieldDescriptor (TJx9f9b0 k).2.2.1 = some (tyJx9f9b0 k) := by decide +kernel
def RJx8e188 : String := "java/lang/Cloneable"
def TJx8e188 : u_T := fun k => match k with
  | _ => ("", "", "", false)
def tyJx8e188 : Nat → FieldType := fun k => match k with
  | _ => .int
abbrev wsJx8e1880 : List Cond := u_ws RJx8e188 TJx8e188 0
theorem nmJx8e188 : ∀ a, a < 0 → ∀ b, b < 0 → a ≠ b → (TJx8e188 a).2.1 ≠ (TJx8e188 b).2.1 := by decide +kernel
theorem tyJx8e188_ok : ∀ k, k < 0 → parseFieldDescriptor (TJx8e188 k).2.2.1 = some (tyJx8e188 k) := by decide +kernel
def RJxb160c : String := "java/lang/Comparable"
def TJxb160c : u_T := fun k => match k with
  | _ => ("", "", "", false)
def tyJxb160c : Nat → FieldType := fun k => match k with
  | _ => .int
abbrev wsJxb160c0 : List Cond := u_ws RJxb160c TJxb160c 0
theorem nmJxb160c : ∀ a, a < 0 → ∀ b, b < 0 → a ≠ b → (TJxb160c a).2.1 ≠ (TJxb160c b).2.1 := by decide +kernel
theorem tyJxb160c_ok : ∀ k, k < 0 → parseFieldDescriptor (TJxb160c k).2.2.1 = some (tyJxb160c k) := by decide +kernel
def RJxe99ae : String := "java/lang/Double"
def TJxe99ae : u_T := fun k => match k with
  | _ => ("", "", "", false)
def tyJxe99ae : Nat → FieldType := fun k => match k with
  | _ => .int
abbrev wsJxe99ae0 : List Cond := u_ws RJxe99ae TJxe99ae 0
theorem nmJxe99ae : ∀ a, a < 0 → ∀ b, b < 0 → a ≠ b → (TJxe99ae a).2.1 ≠ (TJxe99ae b).2.1 := by decide +kernel
theorem tyJxe99ae_ok : ∀ k, k < 0 → parseFieldDescriptor (TJxe99ae k).2.2.1 = some (tyJxe99ae k) := by decide +kernel
abbrev cJxe99ae_isNaN_b9ae7 : ByteArray := prog_20_method_6_code
def yJxe99ae_isNaN_b9ae7 : MethodName := ⟨RJxe99ae, "isNaN", "(D)Z"⟩
abbrev cJxe99ae_doubleToLongBits_ccdee : ByteArray := prog_20_method_23_code
def yJxe99ae_doubleToLongBits_ccdee : MethodName := ⟨RJxe99ae, "doubleToLongBits", "(D)J"⟩
def RJxf58ca : String := "java/lang/Float"
def TJxf58ca : u_T := fun k => match k with
  | _ => ("", "", "", false)
def tyJxf58ca : Nat → FieldType := fun k => match k with
  | _ => .int
abbrev wsJxf58ca0 : List Cond := u_ws RJxf58ca TJxf58ca 0
theorem nmJxf58ca : ∀ a, a < 0 → ∀ b, b < 0 → a ≠ b → (TJxf58ca a).2.1 ≠ (TJxf58ca b).2.1 := by decide +kernel
theorem tyJxf58ca_ok : ∀ k, k < 0 → parseFieldDescriptor (TJxf58ca k).2.2.1 = some (tyJxf58ca k) := by decide +kernel
abbrev cJxf58ca_isNaN_12338 : ByteArray := prog_22_method_6_code
def yJxf58ca_isNaN_12338 : MethodName := ⟨RJxf58ca, "isNaN", "(F)Z"⟩
abbrev cJxf58ca_floatToIntBits_5c35a : ByteArray := prog_22_method_24_code
def yJxf58ca_floatToIntBits_5c35a : MethodName := ⟨RJxf58ca, "floatToIntBits", "(F)I"⟩
def RJ6 : String := "java/lang/Integer"
def TJ6 : u_T := fun k => match k with
  | _ => ("", "", "", false)
def tyJ6 : Nat → FieldType := fun k => match k with
  | _ => .int
abbrev wsJ60 : List Cond := u_ws RJ6 TJ6 0
theorem nmJ6 : ∀ a, a < 0 → ∀ b, b < 0 → a ≠ b → (TJ6 a).2.1 ≠ (TJ6 b).2.1 := by decide +kernel
theorem tyJ6_ok : ∀ k, k < 0 → parseFieldDescriptor (TJ6 k).2.2.1 = some (tyJ6 k) := by decide +kernel
abbrev cJ6_getChars_ba4f3 : ByteArray := prog_26_method_12_code
def yJ6_getChars_ba4f3 : MethodName := ⟨RJ6, "getChars", "(II[B)I"⟩
abbrev cJ6_stringSize_0f7a4 : ByteArray := prog_26_method_13_code
def yJ6_stringSize_0f7a4 : MethodName := ⟨RJ6, "stringSize", "(I)I"⟩
def RJ9 : String := "java/lang/Math"
def TJ9 : u_T := fun k => match k with
  | _ => ("", "", "", false)
def tyJ9 : Nat → FieldType := fun k => match k with
  | _ => .int
abbrev wsJ90 : List Cond := u_ws RJ9 TJ9 0
theorem nmJ9 : ∀ a, a < 0 → ∀ b, b < 0 → a ≠ b → (TJ9 a).2.1 ≠ (TJ9 b).2.1 := by decide +kernel
theorem tyJ9_ok : ∀ k, k < 0 → parseFieldDescriptor (TJ9 k).2.2.1 = some (tyJ9 k) := by decide +kernel
abbrev cJ9_max_7cf53 : ByteArray := prog_27_method_65_code
def yJ9_max_7cf53 : MethodName := ⟨RJ9, "max", "(II)I"⟩
abbrev cJ9_min_7cf53 : ByteArray := prog_27_method_69_code
def yJ9_min_7cf53 : MethodName := ⟨RJ9, "min", "(II)I"⟩
def RJxd2413 : String := "java/lang/Number"
def TJxd2413 : u_T := fun k => match k with
  | _ => ("", "", "", false)
def tyJxd2413 : Nat → FieldType := fun k => match k with
  | _ => .int
abbrev wsJxd24130 : List Cond := u_ws RJxd2413 TJxd2413 0
theorem nmJxd2413 : ∀ a, a < 0 → ∀ b, b < 0 → a ≠ b → (TJxd2413 a).2.1 ≠ (TJxd2413 b).2.1 := by decide +kernel
theorem tyJxd2413_ok : ∀ k, k < 0 → parseFieldDescriptor (TJxd2413 k).2.2.1 = some (tyJxd2413 k) := by decide +kernel
def RJ0 : String := "java/lang/String"
def TJ0 : u_T := fun k => match k with
  | 0 => ("java/lang/String", "value", "[B", true)
  | 1 => ("java/lang/String", "coder", "B", true)
  | 2 => ("java/lang/String", "hash", "I", false)
  | _ => ("java/lang/String", "hashIsZero", "Z", false)
def tyJ0 : Nat → FieldType := fun k => match k with
  | 0 => .array .byte
  | 1 => .byte
  | 2 => .int
  | _ => .boolean
abbrev wsJ00 : List Cond := u_ws RJ0 TJ0 4
theorem nmJ0 : ∀ a, a < 4 → ∀ b, b < 4 → a ≠ b → (TJ0 a).2.1 ≠ (TJ0 b).2.1 := by decide +kernel
theorem tyJ0_ok : ∀ k, k < 4 → parseFieldDescriptor (TJ0 k).2.2.1 = some (tyJ0 k) := by decide +kernel
abbrev cJ0_init_81219 : ByteArray := prog_30_method_53_code
def yJ0_init_81219 : MethodName := ⟨RJ0, "<init>", "(Ljava/lang/StringBuilder;)V"⟩
abbrev cJ0_length_8abf5 : ByteArray := prog_30_method_54_code
def yJ0_length_8abf5 : MethodName := ⟨RJ0, "length", "()I"⟩
abbrev cJ0_charAt_5068e : ByteArray := prog_30_method_56_code
def yJ0_charAt_5068e : MethodName := ⟨RJ0, "charAt", "(I)C"⟩
abbrev cJ0_getBytes_840e7 : ByteArray := prog_30_method_147_code
def yJ0_getBytes_840e7 : MethodName := ⟨RJ0, "getBytes", "([BIB)V"⟩
abbrev cJ0_init_db425 : ByteArray := prog_30_method_150_code
def yJ0_init_db425 : MethodName := ⟨RJ0, "<init>", "(Ljava/lang/AbstractStringBuilder;Ljava/lang/Void;)V"⟩
abbrev cJ0_coder_7d493 : ByteArray := prog_30_method_152_code
def yJ0_coder_7d493 : MethodName := ⟨RJ0, "coder", "()B"⟩
abbrev cJ0_isLatin1_aae02 : ByteArray := prog_30_method_154_code
def yJ0_isLatin1_aae02 : MethodName := ⟨RJ0, "isLatin1", "()Z"⟩
abbrev cJ0_checkIndex_df160 : ByteArray := prog_30_method_155_code
def yJ0_checkIndex_df160 : MethodName := ⟨RJ0, "checkIndex", "(II)V"⟩
abbrev cJ0_checkBoundsOffCount_cabcc : ByteArray := prog_30_method_157_code
def yJ0_checkBoundsOffCount_cabcc : MethodName := ⟨RJ0, "checkBoundsOffCount", "(III)I"⟩
abbrev cJ0_checkBoundsBeginEnd_23922 : ByteArray := prog_30_method_158_code
def yJ0_checkBoundsBeginEnd_23922 : MethodName := ⟨RJ0, "checkBoundsBeginEnd", "(III)V"⟩
def RJ4 : String := "java/lang/StringBuilder"
def TJ4 : u_T := fun k => match k with
  | 0 => ("java/lang/AbstractStringBuilder", "value", "[B", false)
  | 1 => ("java/lang/AbstractStringBuilder", "coder", "B", false)
  | 2 => ("java/lang/AbstractStringBuilder", "maybeLatin1", "Z", false)
  | _ => ("java/lang/AbstractStringBuilder", "count", "I", false)
def tyJ4 : Nat → FieldType := fun k => match k with
  | 0 => .array .byte
  | 1 => .byte
  | 2 => .boolean
  | _ => .int
abbrev wsJ40 : List Cond := u_ws RJ4 TJ4 4
theorem nmJ4 : ∀ a, a < 4 → ∀ b, b < 4 → a ≠ b → (TJ4 a).2.1 ≠ (TJ4 b).2.1 := by decide +kernel
theorem tyJ4_ok : ∀ k, k < 4 → parseFieldDescriptor (TJ4 k).2.2.1 = some (tyJ4 k) := by decide +kernel
abbrev cJ4_init_da8c8 : ByteArray := prog_31_method_1_code
def yJ4_init_da8c8 : MethodName := ⟨RJ4, "<init>", "()V"⟩
abbrev cJ4_append_15ec4 : ByteArray := prog_31_method_7_code
def yJ4_append_15ec4 : MethodName := ⟨RJ4, "append", "(Ljava/lang/String;)Ljava/lang/StringBuilder;"⟩
abbrev cJ4_append_bf812 : ByteArray := prog_31_method_15_code
def yJ4_append_bf812 : MethodName := ⟨RJ4, "append", "(I)Ljava/lang/StringBuilder;"⟩
abbrev cJ4_toString_0e30d : ByteArray := prog_31_method_42_code
def yJ4_toString_0e30d : MethodName := ⟨RJ4, "toString", "()Ljava/lang/String;"⟩
abbrev cJ4_length_8abf5 : ByteArray := prog_31_method_93_code
def yJ4_length_8abf5 : MethodName := ⟨RJ4, "length", "()I"⟩
def RJ1 : String := "java/lang/StringLatin1"
def TJ1 : u_T := fun k => match k with
  | _ => ("", "", "", false)
def tyJ1 : Nat → FieldType := fun k => match k with
  | _ => .int
abbrev wsJ10 : List Cond := u_ws RJ1 TJ1 0
theorem nmJ1 : ∀ a, a < 0 → ∀ b, b < 0 → a ≠ b → (TJ1 a).2.1 ≠ (TJ1 b).2.1 := by decide +kernel
theorem tyJ1_ok : ∀ k, k < 0 → parseFieldDescriptor (TJ1 k).2.2.1 = some (tyJ1 k) := by decide +kernel
abbrev cJ1_charAt_3b067 : ByteArray := prog_32_method_2_code
def yJ1_charAt_3b067 : MethodName := ⟨RJ1, "charAt", "([BI)C"⟩
abbrev cJ1_inflate_0e8fd : ByteArray := prog_32_method_50_code
def yJ1_inflate_0e8fd : MethodName := ⟨RJ1, "inflate", "([BI[BII)V"⟩
def RJ2 : String := "java/lang/StringUTF16"
def TJ2 : u_T := fun k => match k with
  | _ => ("", "", "", false)
def tyJ2 : Nat → FieldType := fun k => match k with
  | _ => .int
abbrev wsJ20 : List Cond := u_ws RJ2 TJ2 0
theorem nmJ2 : ∀ a, a < 0 → ∀ b, b < 0 → a ≠ b → (TJ2 a).2.1 ≠ (TJ2 b).2.1 := by decide +kernel
theorem tyJ2_ok : ∀ k, k < 0 → parseFieldDescriptor (TJ2 k).2.2.1 = some (tyJ2 k) := by decide +kernel
abbrev cJ2_newBytesFor_77867 : ByteArray := prog_33_method_2_code
def yJ2_newBytesFor_77867 : MethodName := ⟨RJ2, "newBytesFor", "(I)[B"⟩
abbrev cJ2_newBytesLength_0f7a4 : ByteArray := prog_33_method_3_code
def yJ2_newBytesLength_0f7a4 : MethodName := ⟨RJ2, "newBytesLength", "(I)I"⟩
abbrev cJ2_putChar_b72d1 : ByteArray := prog_33_method_4_code
def yJ2_putChar_b72d1 : MethodName := ⟨RJ2, "putChar", "([BII)V"⟩
abbrev cJ2_getChar_3b067 : ByteArray := prog_33_method_5_code
def yJ2_getChar_3b067 : MethodName := ⟨RJ2, "getChar", "([BI)C"⟩
abbrev cJ2_length_9d52b : ByteArray := prog_33_method_6_code
def yJ2_length_9d52b : MethodName := ⟨RJ2, "length", "([B)I"⟩
abbrev cJ2_coderFromArrayLen_85cad : ByteArray := prog_33_method_15_code
def yJ2_coderFromArrayLen_85cad : MethodName := ⟨RJ2, "coderFromArrayLen", "([BI)B"⟩
abbrev cJ2_compress_39247 : ByteArray := prog_33_method_17_code
def yJ2_compress_39247 : MethodName := ⟨RJ2, "compress", "([BII)[B"⟩
abbrev cJ2_compress_5af95 : ByteArray := prog_33_method_22_code
def yJ2_compress_5af95 : MethodName := ⟨RJ2, "compress", "([BI[BII)I"⟩
abbrev cJ2_getChars_46870 : ByteArray := prog_33_method_77_code
def yJ2_getChars_46870 : MethodName := ⟨RJ2, "getChars", "(III[B)I"⟩
abbrev cJ2_putCharsAt_cd4e5 : ByteArray := prog_33_method_81_code
def yJ2_putCharsAt_cd4e5 : MethodName := ⟨RJ2, "putCharsAt", "([BICCCC)I"⟩
abbrev cJ2_charAt_3b067 : ByteArray := prog_33_method_83_code
def yJ2_charAt_3b067 : MethodName := ⟨RJ2, "charAt", "([BI)C"⟩
abbrev cJ2_inflate_0e8fd : ByteArray := prog_33_method_86_code
def yJ2_inflate_0e8fd : MethodName := ⟨RJ2, "inflate", "([BI[BII)V"⟩
abbrev cJ2_getChars_ba4f3 : ByteArray := prog_33_method_89_code
def yJ2_getChars_ba4f3 : MethodName := ⟨RJ2, "getChars", "(II[B)I"⟩
abbrev cJ2_checkIndex_2214a : ByteArray := prog_33_method_91_code
def yJ2_checkIndex_2214a : MethodName := ⟨RJ2, "checkIndex", "(I[B)V"⟩
abbrev cJ2_checkBoundsBeginEnd_d044e : ByteArray := prog_33_method_93_code
def yJ2_checkBoundsBeginEnd_d044e : MethodName := ⟨RJ2, "checkBoundsBeginEnd", "(II[B)V"⟩
abbrev cJ2_checkBoundsOffCount_d044e : ByteArray := prog_33_method_94_code
def yJ2_checkBoundsOffCount_d044e : MethodName := ⟨RJ2, "checkBoundsOffCount", "(II[B)V"⟩
def RJ10 : String := "java/lang/System"
def TJ10 : u_T := fun k => match k with
  | _ => ("", "", "", false)
def tyJ10 : Nat → FieldType := fun k => match k with
  | _ => .int
abbrev wsJ100 : List Cond := u_ws RJ10 TJ10 0
theorem nmJ10 : ∀ a, a < 0 → ∀ b, b < 0 → a ≠ b → (TJ10 a).2.1 ≠ (TJ10 b).2.1 := by decide +kernel
theorem tyJ10_ok : ∀ k, k < 0 → parseFieldDescriptor (TJ10 k).2.2.1 = some (tyJ10 k) := by decide +kernel
def RJxfd54e : String := "java/lang/constant/Constable"
def TJxfd54e : u_T := fun k => match k with
  | _ => ("", "", "", false)
def tyJxfd54e : Nat → FieldType := fun k => match k with
  | _ => .int
abbrev wsJxfd54e0 : List Cond := u_ws RJxfd54e TJxfd54e 0
theorem nmJxfd54e : ∀ a, a < 0 → ∀ b, b < 0 → a ≠ b → (TJxfd54e a).2.1 ≠ (TJxfd54e b).2.1 := by decide +kernel
theorem tyJxfd54e_ok : ∀ k, k < 0 → parseFieldDescriptor (TJxfd54e k).2.2.1 = some (tyJxfd54e k) := by decide +kernel
def RJx3cf43 : String := "java/lang/constant/ConstantDesc"
def TJx3cf43 : u_T := fun k => match k with
  | _ => ("", "", "", false)
def tyJx3cf43 : Nat → FieldType := fun k => match k with
  | _ => .int
abbrev wsJx3cf430 : List Cond := u_ws RJx3cf43 TJx3cf43 0
theorem nmJx3cf43 : ∀ a, a < 0 → ∀ b, b < 0 → a ≠ b → (TJx3cf43 a).2.1 ≠ (TJx3cf43 b).2.1 := by decide +kernel
theorem tyJx3cf43_ok : ∀ k, k < 0 → parseFieldDescriptor (TJx3cf43 k).2.2.1 = some (tyJx3cf43 k) := by decide +kernel
def RJ7 : String := "java/util/Arrays"
def TJ7 : u_T := fun k => match k with
  | _ => ("", "", "", false)
def tyJ7 : Nat → FieldType := fun k => match k with
  | _ => .int
abbrev wsJ70 : List Cond := u_ws RJ7 TJ7 0
theorem nmJ7 : ∀ a, a < 0 → ∀ b, b < 0 → a ≠ b → (TJ7 a).2.1 ≠ (TJ7 b).2.1 := by decide +kernel
theorem tyJ7_ok : ∀ k, k < 0 → parseFieldDescriptor (TJ7 k).2.2.1 = some (tyJ7 k) := by decide +kernel
abbrev cJ7_copyOf_9075b : ByteArray := prog_39_method_121_code
def yJ7_copyOf_9075b : MethodName := ⟨RJ7, "copyOf", "([BI)[B"⟩
abbrev cJ7_checkLength_df160 : ByteArray := prog_39_method_131_code
def yJ7_checkLength_df160 : MethodName := ⟨RJ7, "checkLength", "(II)V"⟩
abbrev cJ7_copyOfRange_39247 : ByteArray := prog_39_method_132_code
def yJ7_copyOfRange_39247 : MethodName := ⟨RJ7, "copyOfRange", "([BII)[B"⟩
abbrev cJ7_copyOfRangeByte_39247 : ByteArray := prog_39_method_133_code
def yJ7_copyOfRangeByte_39247 : MethodName := ⟨RJ7, "copyOfRangeByte", "([BII)[B"⟩
def RJ8 : String := "jdk/internal/util/ArraysSupport"
def TJ8 : u_T := fun k => match k with
  | _ => ("", "", "", false)
def tyJ8 : Nat → FieldType := fun k => match k with
  | _ => .int
abbrev wsJ80 : List Cond := u_ws RJ8 TJ8 0
theorem nmJ8 : ∀ a, a < 0 → ∀ b, b < 0 → a ≠ b → (TJ8 a).2.1 ≠ (TJ8 b).2.1 := by decide +kernel
theorem tyJ8_ok : ∀ k, k < 0 → parseFieldDescriptor (TJ8 k).2.2.1 = some (tyJ8 k) := by decide +kernel
abbrev cJ8_newLength_cabcc : ByteArray := prog_41_method_27_code
def yJ8_newLength_cabcc : MethodName := ⟨RJ8, "newLength", "(III)I"⟩
abbrev cJ8_hugeLength_7cf53 : ByteArray := prog_41_method_28_code
def yJ8_hugeLength_7cf53 : MethodName := ⟨RJ8, "hugeLength", "(II)I"⟩
def RJ3 : String := "jdk/internal/util/Preconditions"
def TJ3 : u_T := fun k => match k with
  | _ => ("", "", "", false)
def tyJ3 : Nat → FieldType := fun k => match k with
  | _ => .int
abbrev wsJ30 : List Cond := u_ws RJ3 TJ3 0
theorem nmJ3 : ∀ a, a < 0 → ∀ b, b < 0 → a ≠ b → (TJ3 a).2.1 ≠ (TJ3 b).2.1 := by decide +kernel
theorem tyJ3_ok : ∀ k, k < 0 → parseFieldDescriptor (TJ3 k).2.2.1 = some (tyJ3 k) := by decide +kernel
abbrev cJ3_checkIndex_8e157 : ByteArray := prog_42_method_11_code
def yJ3_checkIndex_8e157 : MethodName := ⟨RJ3, "checkIndex", "(IILjava/util/function/BiFunction;)I"⟩
abbrev cJ3_checkFromToIndex_8c36e : ByteArray := prog_42_method_12_code
def yJ3_checkFromToIndex_8c36e : MethodName := ⟨RJ3, "checkFromToIndex", "(IIILjava/util/function/BiFunction;)I"⟩
abbrev cJ3_checkFromIndexSize_8c36e : ByteArray := prog_42_method_13_code
def yJ3_checkFromIndexSize_8c36e : MethodName := ⟨RJ3, "checkFromIndexSize", "(IIILjava/util/function/BiFunction;)I"⟩
def RL : String := "BellTelegraphLaw"
abbrev cL_at : ByteArray := method_2_code
def yL_at : MethodName := ⟨RL, "at", "([II)I"⟩
abbrev cL_some : ByteArray := method_3_code
def yL_some : MethodName := ⟨RL, "some", "(II)I"⟩
abbrev cL_convent : ByteArray := method_4_code
def yL_convent : MethodName := ⟨RL, "convent", "(LBellTelegraph;III)I"⟩
abbrev cL_code : ByteArray := method_5_code
def yL_code : MethodName := ⟨RL, "code", "(LBellTelegraph;II)I"⟩
abbrev cL_silence : ByteArray := method_6_code
def yL_silence : MethodName := ⟨RL, "silence", "(LBellTelegraph;III)I"⟩
abbrev cL_wind : ByteArray := method_7_code
def yL_wind : MethodName := ⟨RL, "wind", "(LBellTelegraph;II)I"⟩
abbrev cL_ear : ByteArray := method_8_code
def yL_ear : MethodName := ⟨RL, "ear", "(LBellTelegraph;II)I"⟩
abbrev cL_send : ByteArray := method_9_code
def yL_send : MethodName := ⟨RL, "send", "(LBellTelegraph;III)I"⟩
abbrev cL_drop : ByteArray := method_10_code
def yL_drop : MethodName := ⟨RL, "drop", "(LBellTelegraph;I)I"⟩
abbrev cL_hours : ByteArray := method_11_code
def yL_hours : MethodName := ⟨RL, "hours", "(LBellTelegraph;I)I"⟩
abbrev cL_conventOf : ByteArray := method_12_code
def yL_conventOf : MethodName := ⟨RL, "conventOf", "(LBellTelegraph;II)I"⟩
abbrev cL_ridgeOf : ByteArray := method_13_code
def yL_ridgeOf : MethodName := ⟨RL, "ridgeOf", "(LBellTelegraph;II)I"⟩
abbrev cL_psalm : ByteArray := method_14_code
def yL_psalm : MethodName := ⟨RL, "psalm", "(LBellTelegraph;I)I"⟩
abbrev cL_messageOf : ByteArray := method_15_code
def yL_messageOf : MethodName := ⟨RL, "messageOf", "(LBellTelegraph;II)I"⟩
abbrev cL_sign : ByteArray := method_16_code
def yL_sign : MethodName := ⟨RL, "sign", "(LBellTelegraph;II)I"⟩
abbrev cL_signs : ByteArray := method_17_code
def yL_signs : MethodName := ⟨RL, "signs", "(LBellTelegraph;I)I"⟩
abbrev cL_waiting : ByteArray := method_18_code
def yL_waiting : MethodName := ⟨RL, "waiting", "(LBellTelegraph;II)I"⟩
abbrev cL_arrived : ByteArray := method_19_code
def yL_arrived : MethodName := ⟨RL, "arrived", "(LBellTelegraph;I)I"⟩
abbrev cL_strength : ByteArray := method_20_code
def yL_strength : MethodName := ⟨RL, "strength", "(LBellTelegraph;IZ)I"⟩
abbrev cL_windIn : ByteArray := method_21_code
def yL_windIn : MethodName := ⟨RL, "windIn", "(LBellTelegraph;II)I"⟩
abbrev cL_arrivesIn : ByteArray := method_22_code
def yL_arrivesIn : MethodName := ⟨RL, "arrivesIn", "(LBellTelegraph;I)I"⟩
abbrev cL_wouldLose : ByteArray := method_23_code
def yL_wouldLose : MethodName := ⟨RL, "wouldLose", "(LBellTelegraph;I)I"⟩
abbrev cL_ranked : ByteArray := method_24_code
def yL_ranked : MethodName := ⟨RL, "ranked", "(LBellTelegraph;I)I"⟩
abbrev cL_append : ByteArray := method_25_code
def yL_append : MethodName := ⟨RL, "append", "(LBellTelegraph;C)I"⟩
abbrev cL_commands : ByteArray := method_26_code
def yL_commands : MethodName := ⟨RL, "commands", "(LBellTelegraph;)I"⟩
abbrev cL_reason : ByteArray := method_27_code
def yL_reason : MethodName := ⟨RL, "reason", "(LBellTelegraph;I)I"⟩
abbrev cL_line : ByteArray := method_28_code
def yL_line : MethodName := ⟨RL, "line", "(LBellTelegraph;I)I"⟩
abbrev cL_character : ByteArray := method_29_code
def yL_character : MethodName := ⟨RL, "character", "(LBellTelegraph;I)I"⟩
abbrev cL_meanEar : ByteArray := method_30_code
def yL_meanEar : MethodName := ⟨RL, "meanEar", "(LBellTelegraph;)F"⟩
abbrev cL_lostShare : ByteArray := method_31_code
def yL_lostShare : MethodName := ⟨RL, "lostShare", "(LBellTelegraph;)D"⟩
abbrev cL_account : ByteArray := method_32_code
def yL_account : MethodName := ⟨RL, "account", "(LBellTelegraph;I)I"⟩
abbrev cL_undo : ByteArray := method_33_code
def yL_undo : MethodName := ⟨RL, "undo", "(LBellTelegraph;)I"⟩
abbrev cL_restore : ByteArray := method_34_code
def yL_restore : MethodName := ⟨RL, "restore", "(LBellTelegraph;)I"⟩
abbrev cL_hears : ByteArray := method_35_code
def yL_hears : MethodName := ⟨RL, "hears", "(LBellTelegraph;IZ)I"⟩
abbrev cL_reads : ByteArray := method_36_code
def yL_reads : MethodName := ⟨RL, "reads", "(LBellTelegraph;Ljava/lang/String;)I"⟩
abbrev cL_is : ByteArray := method_37_code
def yL_is : MethodName := ⟨RL, "is", "(LBellTelegraph;III)Z"⟩
abbrev cL_isLine : ByteArray := method_38_code
def yL_isLine : MethodName := ⟨RL, "isLine", "(LBellTelegraph;ILjava/lang/String;)Z"⟩
abbrev cL_makes : ByteArray := method_39_code
def yL_makes : MethodName := ⟨RL, "makes", "(LBellTelegraph;[I)Z"⟩
abbrev cL_some8 : ByteArray := method_40_code
def yL_some8 : MethodName := ⟨RL, "some8", "(I)I"⟩
abbrev cL_asks : ByteArray := method_41_code
def yL_asks : MethodName := ⟨RL, "asks", "(LBellTelegraph;)J"⟩
abbrev cL_changes : ByteArray := method_42_code
def yL_changes : MethodName := ⟨RL, "changes", "(LBellTelegraph;I)Z"⟩
abbrev cL_refused : ByteArray := method_43_code
def yL_refused : MethodName := ⟨RL, "refused", "(LBellTelegraph;)Z"⟩
abbrev cL_law : ByteArray := code
def yL_law : MethodName := ⟨RL, "law", "([I)Z"⟩
end
section
/-! THE TABLES of the program, by a text program (gen.py) out of its printed names, decode rows and words -/
abbrev am_cl : List vw_C := [(RX0, TX0, 4), (RX1, TX1, 5), (RX2, TX2, 8), (RX3, TX3, 3), (RX4, TX4, 10), (RX5, TX5, 10), (RX6, TX6, 3), (RX7, TX7, 2), (RX8, TX8, 11), (RJ0, TJ0, 4)]
def am_cR : Nat → String := fun k => match k with
  | 0 => RX0
  | 1 => RX1
  | 2 => RX2
  | 3 => RX3
  | 4 => RX4
  | 5 => RX5
  | 6 => RX6
  | 7 => RX7
  | 8 => RX8
  | 9 => RJ0
  | _ => RL
def am_cT : Nat → u_T := fun k => match k with
  | 0 => TX0
  | 1 => TX1
  | 2 => TX2
  | 3 => TX3
  | 4 => TX4
  | 5 => TX5
  | 6 => TX6
  | 7 => TX7
  | 8 => TX8
  | 9 => TJ0
  | _ => fun _ => ("", "", "", false)
def am_cY : Nat → Nat → FieldType := fun k => match k with
  | 0 => tyX0
  | 1 => tyX1
  | 2 => tyX2
  | 3 => tyX3
  | 4 => tyX4
  | 5 => tyX5
  | 6 => tyX6
  | 7 => tyX7
  | 8 => tyX8
  | 9 => tyJ0
  | _ => fun _ => .int
def am_cN : Nat → Nat := fun k => match k with
  | 0 => 4
  | 1 => 5
  | 2 => 8
  | 3 => 3
  | 4 => 10
  | 5 => 10
  | 6 => 3
  | 7 => 2
  | 8 => 11
  | 9 => 4
  | _ => 0
/-- a field: 0 an int, 1 a boolean, 2 a char, 3 a reference -/
def am_fk (ci j : Nat) : Nat := match (am_cT ci j).2.2.1 with
  | "I" => 0
  | "Z" => 1
  | "C" => 2
  | "B" => 4
  | _ => 3
def am_ff (ci j : Nat) : Bool := (am_cT ci j).2.2.2
def am_en : Nat → String := fun k => match k with
  | 0 => "java/lang/UnsupportedOperationException"
  | 1 => "java/lang/IndexOutOfBoundsException"
  | 2 => "java/lang/IllegalArgumentException"
  | 3 => "java/util/NoSuchElementException"
  | 4 => "java/lang/IllegalStateException"
  | _ => "java/lang/ArithmeticException"
def am_look {β : Type} (t : List (Nat × Nat × β)) (a b : Nat) : Option β := match t with
  | [] => none
  | q :: t => if q.1 = a ∧ q.2.1 = b then some q.2.2 else am_look t a b
def am_fl_t : List (Nat × Nat × (Nat × Nat)) := [(0, 7, 0, 0), (0, 13, 0, 1), (0, 16, 0, 2), (0, 19, 0, 3), (1, 9, 1, 0), (1, 17, 1, 2), (1, 22, 1, 1), (1, 26, 1, 4), (1, 29, 1, 3), (2, 9, 2, 7), (2, 15, 2, 0), (2, 19, 2, 1), (2, 22, 2, 2), (2, 25, 2, 3), (2, 28, 2, 4), (2, 31, 2, 5), (2, 34, 2, 6), (3, 11, 3, 0), (3, 18, 3, 1), (3, 22, 3, 2), (4, 9, 4, 9), (4, 15, 4, 0), (4, 19, 4, 1), (4, 22, 4, 2), (4, 25, 4, 3), (4, 28, 4, 4), (4, 35, 4, 5), (4, 38, 4, 6), (4, 41, 4, 7), (4, 45, 4, 8), (5, 11, 5, 2), (5, 19, 5, 3), (5, 23, 5, 4), (5, 29, 5, 6), (5, 33, 5, 8), (5, 36, 5, 9), (5, 42, 5, 0), (5, 46, 5, 1), (5, 53, 7, 0), (5, 56, 7, 1), (5, 65, 5, 5), (5, 71, 5, 7), (5, 74, 0, 0), (5, 79, 0, 1), (5, 82, 0, 2), (5, 85, 0, 3), (5, 138, 2, 2), (5, 141, 2, 3), (5, 147, 2, 1), (5, 157, 4, 8), (5, 160, 4, 9), (5, 171, 4, 3), (5, 174, 4, 2), (5, 196, 2, 4), (5, 221, 4, 6), (5, 222, 4, 7), (5, 232, 2, 5), (5, 235, 4, 5), (5, 241, 4, 1), (5, 251, 2, 0), (5, 263, 4, 4), (6, 9, 6, 0), (6, 15, 6, 1), (8, 12, 8, 0), (8, 16, 8, 1), (8, 19, 8, 2), (8, 25, 8, 4), (8, 32, 8, 5), (8, 39, 8, 6), (8, 46, 8, 7), (8, 50, 8, 8), (8, 54, 8, 9), (8, 78, 6, 2), (8, 91, 2, 0), (8, 96, 2, 1), (8, 99, 2, 2), (8, 102, 2, 3), (8, 105, 2, 6), (8, 108, 2, 4), (8, 111, 2, 5), (8, 128, 7, 0), (8, 133, 7, 1), (8, 139, 5, 4), (8, 155, 5, 0), (8, 161, 5, 1), (8, 167, 5, 2), (8, 180, 5, 3), (8, 191, 4, 0), (8, 196, 4, 1), (8, 199, 4, 2), (8, 202, 4, 8), (8, 208, 4, 5), (8, 211, 4, 6), (8, 212, 4, 3), (8, 215, 4, 4), (8, 218, 4, 9), (8, 221, 2, 7), (8, 224, 5, 7), (8, 227, 5, 8), (8, 234, 5, 6), (8, 244, 5, 5), (8, 254, 1, 1), (8, 265, 1, 3), (8, 268, 1, 2), (8, 272, 6, 0), (8, 275, 6, 1), (8, 278, 8, 10), (8, 300, 3, 2), (8, 306, 8, 3)]
def am_fl (a b : Nat) : Option (Nat × Nat) := am_look am_fl_t a b
def am_ml_t : List (Nat × Nat × (Nat × Nat)) := [(0, 1, 5, 0), (1, 3, 5, 0), (1, 21, 3, 0), (1, 32, 0, 5), (1, 36, 0, 11), (1, 40, 0, 10), (1, 44, 0, 6), (1, 48, 0, 7), (1, 52, 0, 8), (1, 55, 0, 9), (1, 58, 0, 12), (1, 62, 0, 14), (1, 65, 0, 1), (1, 69, 0, 13), (2, 3, 5, 0), (2, 37, 7, 0), (3, 3, 5, 0), (3, 17, 2, 33), (4, 3, 5, 0), (4, 31, 0, 28), (4, 48, 7, 0), (5, 3, 5, 0), (5, 39, 3, 15), (5, 40, 3, 64), (5, 41, 3, 25), (5, 49, 0, 17), (5, 59, 7, 0), (5, 68, 0, 27), (5, 88, 0, 40), (5, 92, 0, 41), (5, 96, 0, 42), (5, 99, 0, 43), (5, 102, 0, 44), (5, 105, 0, 45), (5, 108, 0, 47), (5, 112, 0, 48), (5, 115, 4, 110), (5, 119, 0, 63), (5, 125, 0, 16), (5, 129, 4, 231), (5, 132, 0, 35), (5, 135, 4, 111), (5, 144, 0, 36), (5, 150, 0, 46), (5, 154, 0, 26), (5, 163, 0, 19), (5, 168, 0, 37), (5, 177, 0, 20), (5, 180, 0, 49), (5, 183, 0, 38), (5, 187, 0, 228), (5, 190, 0, 18), (5, 193, 0, 31), (5, 199, 0, 55), (5, 203, 0, 50), (5, 207, 0, 29), (5, 211, 0, 51), (5, 215, 0, 53), (5, 218, 0, 30), (5, 226, 0, 230), (5, 229, 0, 229), (5, 238, 0, 28), (5, 244, 0, 52), (5, 248, 4, 112), (5, 254, 0, 54), (5, 257, 0, 57), (5, 260, 0, 32), (6, 3, 5, 0), (7, 1, 5, 0), (8, 3, 5, 0), (8, 11, 2, 33), (8, 24, 2, 21), (8, 31, 3, 62), (8, 38, 3, 0), (8, 45, 2, 2), (8, 58, 0, 1), (8, 62, 0, 74), (8, 66, 0, 22), (8, 70, 0, 34), (8, 74, 0, 39), (8, 84, 0, 23), (8, 87, 0, 82), (8, 114, 0, 38), (8, 117, 0, 18), (8, 124, 0, 83), (8, 136, 1, 231), (8, 143, 0, 84), (8, 147, 0, 54), (8, 151, 0, 55), (8, 158, 1, 112), (8, 171, 0, 35), (8, 177, 0, 36), (8, 187, 0, 93), (8, 205, 0, 32), (8, 230, 0, 92), (8, 238, 0, 49), (8, 241, 0, 37), (8, 247, 0, 56), (8, 251, 0, 96), (8, 258, 0, 3), (8, 262, 0, 4), (8, 281, 0, 103), (8, 285, 0, 104), (8, 288, 0, 58), (8, 291, 0, 59), (8, 294, 0, 60), (8, 297, 0, 61), (8, 303, 0, 24), (10, 7, 0, 66), (10, 15, 0, 67), (10, 19, 0, 68), (10, 22, 0, 69), (10, 25, 0, 70), (10, 28, 0, 71), (10, 31, 0, 72), (10, 35, 0, 73), (10, 38, 0, 75), (10, 45, 0, 76), (10, 48, 0, 77), (10, 51, 0, 85), (10, 54, 0, 86), (10, 57, 0, 87), (10, 60, 0, 88), (10, 65, 0, 89), (10, 68, 0, 78), (10, 72, 0, 80), (10, 75, 0, 90), (10, 78, 0, 91), (10, 81, 0, 94), (10, 84, 0, 98), (10, 90, 0, 99), (10, 94, 0, 101), (10, 97, 0, 102), (10, 100, 0, 105), (10, 104, 0, 81), (10, 111, 0, 97), (10, 117, 0, 106), (10, 120, 0, 107), (10, 123, 0, 109), (10, 126, 0, 79), (10, 130, 10, 0), (10, 135, 11, 0), (10, 138, 1, 136), (10, 143, 1, 137), (10, 146, 1, 138), (10, 149, 1, 139), (10, 151, 1, 140), (10, 153, 1, 113), (10, 157, 1, 114), (10, 160, 1, 115), (10, 163, 1, 116), (10, 166, 1, 118), (10, 168, 1, 117), (10, 172, 1, 142), (10, 175, 8, 0), (10, 181, 1, 141), (10, 184, 9, 0), (10, 190, 1, 143), (10, 192, 1, 123), (10, 194, 1, 129), (10, 196, 1, 131), (10, 199, 1, 146), (10, 201, 1, 124), (10, 203, 1, 132), (10, 205, 1, 125), (10, 207, 1, 126), (10, 209, 1, 127), (10, 211, 1, 128), (10, 213, 1, 135), (10, 215, 1, 130), (10, 217, 1, 133), (10, 219, 1, 134), (10, 221, 0, 95), (10, 224, 0, 96), (10, 227, 1, 119), (10, 229, 1, 151), (10, 232, 1, 120), (10, 234, 1, 121), (10, 236, 1, 122), (10, 263, 1, 147), (10, 267, 1, 152), (10, 271, 1, 148), (10, 277, 0, 100), (10, 282, 2, 65), (10, 283, 1, 144), (10, 285, 1, 145), (10, 287, 0, 108), (10, 293, 1, 149), (10, 299, 1, 150), (10, 303, 1, 154), (10, 307, 1, 153), (10, 311, 6, 0)]
def am_ml (a b : Nat) : Option (Nat × Nat) := am_look am_ml_t a b
def am_kc_t : List (Nat × Nat × Int32) := [(5, 167, 88888888), (10, 290, 77777777)]
def am_kc (a b : Nat) : Option Int32 := am_look am_kc_t a b
def am_kl_t : List (Nat × Nat × Int64) := [(10, 170, 31)]
def am_kl (a b : Nat) : Option Int64 := am_look am_kl_t a b
def am_kf_t : List (Nat × Nat × UInt32) := [(10, 110, 3296346112)]
def am_kf (a b : Nat) : Option UInt32 := am_look am_kf_t a b
def am_kd2_t : List (Nat × Nat × UInt64) := [(10, 115, 13875388141788987392), (10, 297, 4594234569871327232)]
def am_kd2 (a b : Nat) : Option UInt64 := am_look am_kd2_t a b
/-- the texts of the String constants: a place in the list, its letters -/
def am_lit : Nat → List Nat := fun k => match k with
  | 0 => [104]
  | 1 => [59, 101]
  | 2 => [61]
  | 3 => [113]
  | 4 => [58, 55, 45]
  | 5 => [59, 100]
  | 6 => [122]
  | 7 => [104, 49, 59, 104, 48]
  | 8 => [48, 62, 53, 58, 63, 63, 63, 63, 63, 63, 63, 63]
  | _ => []
def am_kt_t : List (Nat × Nat × Nat) := [(10, 241, 0), (10, 249, 1), (10, 251, 2), (10, 257, 3), (10, 259, 4), (10, 261, 5), (10, 275, 6), (10, 280, 7), (10, 291, 8)]
def am_kt (a b : Nat) : Option Nat := am_look am_kt_t a b
def am_nw_t : List (Nat × Nat × (Nat ⊕ (Nat × Nat))) := [(1, 15, .inl 0), (3, 9, .inl 5), (5, 9, .inl 2), (5, 17, .inl 7), (5, 27, .inl 4), (8, 9, .inl 5), (8, 22, .inl 3), (8, 29, .inl 6), (8, 36, .inl 0), (8, 43, .inl 1), (8, 81, .inr (0, 83)), (8, 121, .inr (2, 123)), (8, 164, .inr (5, 166)), (8, 174, .inr (1, 176)), (8, 184, .inr (3, 186)), (8, 255, .inr (4, 257)), (10, 8, .inl 8)]
def am_nw (a b : Nat) : Option (Nat ⊕ (Nat × Nat)) := am_look am_nw_t a b
def am_aw_t : List (Nat × Nat × Nat) := [(1, 15, 0), (3, 9, 5), (5, 9, 2), (5, 17, 7), (5, 27, 4)]
def am_aw (a b : Nat) : Option Nat := am_look am_aw_t a b
def am_c0 : List (Nat × Instr) := [(0, .aload_n 0), (1, .invokespecial 1), (4, .return_)]
def am_c1 : List (Nat × Instr) := [(0, .aload_n 0), (1, .iload_n 1), (2, .putfield 7), (5, .aload_n 0), (6, .iload_n 2), (7, .putfield 13), (10, .aload_n 0), (11, .iload_n 3), (12, .putfield 16), (15, .aload_n 0), (16, .iload 4), (18, .putfield 19), (21, .return_)]
def am_c2 : List (Nat × Instr) := [(0, .aload_n 0), (1, .invokespecial 3), (4, .aload_n 0), (5, .bipush 60), (7, .newarray .char), (9, .putfield 9), (12, .aload_n 0), (13, .bipush 20), (15, .anewarray 15), (18, .putfield 17), (21, .iconst 0), (22, .istore_n 1), (23, .iload_n 1), (24, .bipush 20), (26, .if_icmp .ge 22), (29, .aload_n 0), (30, .getfield 17), (33, .iload_n 1), (34, .new 15), (37, .dup), (38, .invokespecial 21), (41, .aastore), (42, .iinc 1 1), (45, .goto (-22)), (48, .return_)]
def am_c3 : List (Nat × Instr) := [(0, .aload_n 0), (1, .getfield 22), (4, .bipush 60), (6, .if_icmp .ge 23), (9, .aload_n 0), (10, .getfield 9), (13, .aload_n 0), (14, .getfield 22), (17, .iload_n 1), (18, .castore), (19, .aload_n 0), (20, .dup), (21, .getfield 22), (24, .iconst 1), (25, .iadd), (26, .putfield 22), (29, .return_)]
def am_c4 : List (Nat × Instr) := [(0, .aload_n 0), (1, .iconst 0), (2, .putfield 26), (5, .aload_n 0), (6, .iconst 0), (7, .putfield 29), (10, .aload_n 0), (11, .invokevirtual 32), (14, .istore_n 1), (15, .iconst 0), (16, .istore_n 2), (17, .iload_n 1), (18, .ifCond .eq 48), (21, .aload_n 0), (22, .getfield 26), (25, .aload_n 0), (26, .getfield 22), (29, .if_icmp .ge 37), (32, .iload_n 2), (33, .bipush 60), (35, .if_icmp .ge 31), (38, .aload_n 0), (39, .bipush 59), (41, .invokevirtual 36), (44, .ifCond .eq 14), (47, .aload_n 0), (48, .invokevirtual 32), (51, .ifCond .eq 7), (54, .iconst 1), (55, .goto 4), (58, .iconst 0), (59, .istore_n 1), (60, .iinc 2 1), (63, .goto (-46)), (66, .iload_n 1), (67, .ifCond .eq 7), (70, .iconst (-1)), (71, .goto 7), (74, .aload_n 0), (75, .getfield 26), (78, .ireturn)]
def am_c5 : List (Nat × Instr) := [(0, .aload_n 0), (1, .getfield 29), (4, .bipush 20), (6, .if_icmp .lt 5), (9, .iconst 0), (10, .ireturn), (11, .aload_n 0), (12, .getfield 17), (15, .aload_n 0), (16, .getfield 29), (19, .aaload), (20, .astore_n 1), (21, .aload_n 0), (22, .dup), (23, .getfield 29), (26, .iconst 1), (27, .iadd), (28, .putfield 29), (31, .aload_n 0), (32, .invokevirtual 40), (35, .tableswitch 135 100 119 #[127, 120, 135, 135, 99, 135, 135, 135, 135, 135, 135, 135, 135, 107, 135, 93, 135, 135, 135, 113]), (128, .aload_n 0), (129, .aload_n 1), (130, .invokevirtual 44), (133, .ireturn), (134, .aload_n 0), (135, .aload_n 1), (136, .bipush 7), (138, .invokevirtual 48), (141, .ireturn), (142, .aload_n 0), (143, .aload_n 1), (144, .invokevirtual 52), (147, .ireturn), (148, .aload_n 0), (149, .aload_n 1), (150, .iconst 3), (151, .invokevirtual 55), (154, .ireturn), (155, .aload_n 0), (156, .aload_n 1), (157, .iconst 4), (158, .invokevirtual 55), (161, .ireturn), (162, .aload_n 0), (163, .aload_n 1), (164, .bipush 6), (166, .invokevirtual 48), (169, .ireturn), (170, .iconst 0), (171, .ireturn)]
def am_c6 : List (Nat × Instr) := [(0, .aload_n 0), (1, .dup), (2, .getfield 26), (5, .iconst 1), (6, .iadd), (7, .putfield 26), (10, .aload_n 0), (11, .iconst 0), (12, .bipush 9), (14, .invokevirtual 58), (17, .istore_n 2), (18, .iload_n 2), (19, .iconst (-1)), (20, .if_icmp .eq 12), (23, .aload_n 0), (24, .bipush 62), (26, .invokevirtual 36), (29, .ifCond .ne 5), (32, .iconst 0), (33, .ireturn), (34, .aload_n 0), (35, .iconst 0), (36, .bipush 9), (38, .invokevirtual 58), (41, .istore_n 3), (42, .iload_n 3), (43, .iconst (-1)), (44, .if_icmp .eq 12), (47, .aload_n 0), (48, .bipush 58), (50, .invokevirtual 36), (53, .ifCond .ne 5), (56, .iconst 0), (57, .ireturn), (58, .aload_n 0), (59, .invokevirtual 62), (62, .istore 4), (64, .aload_n 1), (65, .iconst 5), (66, .iload_n 2), (67, .iload_n 3), (68, .iload 4), (70, .invokevirtual 65), (73, .iload 4), (75, .iconst (-1)), (76, .if_icmp .eq 7), (79, .iconst 1), (80, .goto 4), (83, .iconst 0), (84, .ireturn)]
def am_c7 : List (Nat × Instr) := [(0, .aload_n 0), (1, .dup), (2, .getfield 26), (5, .iconst 1), (6, .iadd), (7, .putfield 26), (10, .aload_n 0), (11, .invokevirtual 69), (14, .istore_n 3), (15, .aload_n 1), (16, .iload_n 2), (17, .iload_n 3), (18, .iconst 0), (19, .iconst 0), (20, .invokevirtual 65), (23, .iload_n 3), (24, .iconst (-1)), (25, .if_icmp .eq 7), (28, .iconst 1), (29, .goto 4), (32, .iconst 0), (33, .ireturn)]
def am_c8 : List (Nat × Instr) := [(0, .aload_n 0), (1, .dup), (2, .getfield 26), (5, .iconst 1), (6, .iadd), (7, .putfield 26), (10, .aload_n 0), (11, .iconst 0), (12, .bipush 9), (14, .invokevirtual 58), (17, .istore_n 2), (18, .iload_n 2), (19, .iconst (-1)), (20, .if_icmp .eq 12), (23, .aload_n 0), (24, .bipush 58), (26, .invokevirtual 36), (29, .ifCond .ne 5), (32, .iconst 0), (33, .ireturn), (34, .aload_n 0), (35, .invokevirtual 69), (38, .istore_n 3), (39, .iload_n 3), (40, .iconst (-1)), (41, .if_icmp .eq 12), (44, .aload_n 0), (45, .bipush 45), (47, .invokevirtual 36), (50, .ifCond .ne 5), (53, .iconst 0), (54, .ireturn), (55, .aload_n 0), (56, .invokevirtual 69), (59, .istore 4), (61, .aload_n 1), (62, .iconst 2), (63, .iload_n 2), (64, .iload_n 3), (65, .iload 4), (67, .invokevirtual 65), (70, .iload 4), (72, .iconst (-1)), (73, .if_icmp .eq 7), (76, .iconst 1), (77, .goto 4), (80, .iconst 0), (81, .ireturn)]
def am_c9 : List (Nat × Instr) := [(0, .aload_n 0), (1, .dup), (2, .getfield 26), (5, .iconst 1), (6, .iadd), (7, .putfield 26), (10, .aload_n 0), (11, .iconst 0), (12, .bipush 9), (14, .invokevirtual 58), (17, .istore_n 3), (18, .iload_n 3), (19, .iconst (-1)), (20, .if_icmp .eq 12), (23, .aload_n 0), (24, .bipush 61), (26, .invokevirtual 36), (29, .ifCond .ne 5), (32, .iconst 0), (33, .ireturn), (34, .aload_n 0), (35, .iconst 0), (36, .bipush 9), (38, .invokevirtual 58), (41, .istore 4), (43, .aload_n 1), (44, .iload_n 2), (45, .iload_n 3), (46, .iload 4), (48, .iconst 0), (49, .invokevirtual 65), (52, .iload 4), (54, .iconst (-1)), (55, .if_icmp .eq 7), (58, .iconst 1), (59, .goto 4), (62, .iconst 0), (63, .ireturn)]
def am_c10 : List (Nat × Instr) := [(0, .aload_n 0), (1, .getfield 26), (4, .aload_n 0), (5, .getfield 22), (8, .if_icmp .ge 15), (11, .aload_n 0), (12, .getfield 9), (15, .aload_n 0), (16, .getfield 26), (19, .caload), (20, .goto 4), (23, .iconst (-1)), (24, .ireturn)]
def am_c11 : List (Nat × Instr) := [(0, .aload_n 0), (1, .invokevirtual 40), (4, .iload_n 1), (5, .if_icmp .eq 5), (8, .iconst 0), (9, .ireturn), (10, .aload_n 0), (11, .dup), (12, .getfield 26), (15, .iconst 1), (16, .iadd), (17, .putfield 26), (20, .iconst 1), (21, .ireturn)]
def am_c12 : List (Nat × Instr) := [(0, .aload_n 0), (1, .invokevirtual 40), (4, .bipush 48), (6, .isub), (7, .istore_n 3), (8, .iload_n 3), (9, .iload_n 1), (10, .if_icmp .lt 8), (13, .iload_n 3), (14, .iload_n 2), (15, .if_icmp .le 5), (18, .iconst (-1)), (19, .ireturn), (20, .aload_n 0), (21, .dup), (22, .getfield 26), (25, .iconst 1), (26, .iadd), (27, .putfield 26), (30, .iload_n 3), (31, .ireturn)]
def am_c13 : List (Nat × Instr) := [(0, .aload_n 0), (1, .iconst 0), (2, .bipush 9), (4, .invokevirtual 58), (7, .istore_n 1), (8, .iload_n 1), (9, .iconst (-1)), (10, .if_icmp .ne 5), (13, .iconst (-1)), (14, .ireturn), (15, .aload_n 0), (16, .iconst 0), (17, .bipush 9), (19, .invokevirtual 58), (22, .istore_n 2), (23, .iload_n 2), (24, .iconst (-1)), (25, .if_icmp .ne 7), (28, .iload_n 1), (29, .goto 9), (32, .bipush 10), (34, .iload_n 1), (35, .imul), (36, .iload_n 2), (37, .iadd), (38, .ireturn)]
def am_c14 : List (Nat × Instr) := [(0, .iconst (-1)), (1, .istore_n 1), (2, .iconst 0), (3, .istore_n 2), (4, .iload_n 2), (5, .bipush 8), (7, .if_icmp .ge 39), (10, .aload_n 0), (11, .iconst 1), (12, .bipush 8), (14, .invokevirtual 58), (17, .istore_n 3), (18, .iload_n 3), (19, .iconst (-1)), (20, .if_icmp .ne 5), (23, .iload_n 1), (24, .ireturn), (25, .iload_n 2), (26, .ifCond .ne 7), (29, .iload_n 3), (30, .goto 9), (33, .bipush 10), (35, .iload_n 1), (36, .imul), (37, .iload_n 3), (38, .iadd), (39, .istore_n 1), (40, .iinc 2 1), (43, .goto (-39)), (46, .iload_n 1), (47, .ireturn)]
def am_c15 : List (Nat × Instr) := [(0, .aload_n 0), (1, .invokespecial 3), (4, .aload_n 0), (5, .bipush 16), (7, .newarray .int), (9, .putfield 9), (12, .return_)]
def am_c16 : List (Nat × Instr) := [(0, .aload_n 0), (1, .iload_n 1), (2, .putfield 15), (5, .aload_n 0), (6, .iload_n 2), (7, .putfield 19), (10, .aload_n 0), (11, .iconst 0), (12, .putfield 22), (15, .aload_n 0), (16, .iconst 0), (17, .putfield 25), (20, .aload_n 0), (21, .iconst 0), (22, .putfield 28), (25, .aload_n 0), (26, .iconst 0), (27, .putfield 31), (30, .aload_n 0), (31, .iconst 0), (32, .putfield 34), (35, .return_)]
def am_c17 : List (Nat × Instr) := [(0, .aload_n 0), (1, .aload_n 1), (2, .getfield 15), (5, .putfield 15), (8, .aload_n 0), (9, .aload_n 1), (10, .getfield 19), (13, .putfield 19), (16, .aload_n 0), (17, .aload_n 1), (18, .getfield 22), (21, .putfield 22), (24, .aload_n 0), (25, .aload_n 1), (26, .getfield 25), (29, .putfield 25), (32, .aload_n 0), (33, .aload_n 1), (34, .getfield 28), (37, .putfield 28), (40, .aload_n 0), (41, .aload_n 1), (42, .getfield 31), (45, .putfield 31), (48, .aload_n 0), (49, .aload_n 1), (50, .getfield 34), (53, .putfield 34), (56, .aload_n 1), (57, .getfield 9), (60, .iconst 0), (61, .aload_n 0), (62, .getfield 9), (65, .iconst 0), (66, .bipush 16), (68, .invokestatic 37), (71, .return_)]
def am_c18 : List (Nat × Instr) := [(0, .aload_n 0), (1, .getfield 22), (4, .aload_n 0), (5, .getfield 25), (8, .if_icmp .gt 25), (11, .iload_n 1), (12, .aload_n 0), (13, .getfield 22), (16, .if_icmp .lt 15), (19, .iload_n 1), (20, .aload_n 0), (21, .getfield 25), (24, .if_icmp .ge 7), (27, .iconst 1), (28, .goto 4), (31, .iconst 0), (32, .ireturn), (33, .iload_n 1), (34, .aload_n 0), (35, .getfield 22), (38, .if_icmp .ge 11), (41, .iload_n 1), (42, .aload_n 0), (43, .getfield 25), (46, .if_icmp .ge 7), (49, .iconst 1), (50, .goto 4), (53, .iconst 0), (54, .ireturn)]
def am_c19 : List (Nat × Instr) := [(0, .aload_n 0), (1, .getfield 34), (4, .bipush 16), (6, .if_icmp .ge 23), (9, .aload_n 0), (10, .getfield 9), (13, .aload_n 0), (14, .getfield 34), (17, .iload_n 1), (18, .iastore), (19, .aload_n 0), (20, .dup), (21, .getfield 34), (24, .iconst 1), (25, .iadd), (26, .putfield 34), (29, .return_)]
def am_c20 : List (Nat × Instr) := [(0, .iconst 0), (1, .istore_n 2), (2, .iconst 0), (3, .istore_n 3), (4, .iload_n 3), (5, .aload_n 0), (6, .getfield 34), (9, .if_icmp .ge 34), (12, .aload_n 0), (13, .getfield 9), (16, .iload_n 3), (17, .iaload), (18, .iload_n 1), (19, .if_icmp .eq 18), (22, .aload_n 0), (23, .getfield 9), (26, .iload_n 2), (27, .aload_n 0), (28, .getfield 9), (31, .iload_n 3), (32, .iaload), (33, .iastore), (34, .iinc 2 1), (37, .iinc 3 1), (40, .goto (-36)), (43, .aload_n 0), (44, .iload_n 2), (45, .putfield 34), (48, .return_)]
def am_c21 : List (Nat × Instr) := [(0, .aload_n 0), (1, .invokespecial 3), (4, .aload_n 0), (5, .bipush 9), (7, .anewarray 9), (10, .putfield 11), (13, .iconst 0), (14, .istore_n 1), (15, .iload_n 1), (16, .bipush 9), (18, .if_icmp .ge 22), (21, .aload_n 0), (22, .getfield 11), (25, .iload_n 1), (26, .new 9), (29, .dup), (30, .invokespecial 17), (33, .aastore), (34, .iinc 1 1), (37, .goto (-22)), (40, .return_)]
def am_c22 : List (Nat × Instr) := [(0, .aload_n 0), (1, .getfield 11), (4, .aload_n 0), (5, .getfield 18), (8, .aaload), (9, .areturn)]
def am_c23 : List (Nat × Instr) := [(0, .aload_n 0), (1, .aload_n 0), (2, .getfield 18), (5, .iconst 1), (6, .iadd), (7, .bipush 9), (9, .irem), (10, .putfield 18), (13, .aload_n 0), (14, .getfield 22), (17, .bipush 8), (19, .if_icmp .ge 13), (22, .aload_n 0), (23, .dup), (24, .getfield 22), (27, .iconst 1), (28, .iadd), (29, .putfield 22), (32, .return_)]
def am_c24 : List (Nat × Instr) := [(0, .aload_n 0), (1, .aload_n 0), (2, .getfield 18), (5, .bipush 8), (7, .iadd), (8, .bipush 9), (10, .irem), (11, .putfield 18), (14, .aload_n 0), (15, .dup), (16, .getfield 22), (19, .iconst 1), (20, .isub), (21, .putfield 22), (24, .aload_n 0), (25, .getfield 11), (28, .aload_n 0), (29, .getfield 18), (32, .aaload), (33, .areturn)]
def am_c25 : List (Nat × Instr) := [(0, .aload_n 0), (1, .invokespecial 3), (4, .aload_n 0), (5, .bipush 8), (7, .newarray .int), (9, .putfield 9), (12, .return_)]
def am_c26 : List (Nat × Instr) := [(0, .aload_n 0), (1, .iload_n 1), (2, .putfield 15), (5, .aload_n 0), (6, .iload_n 2), (7, .putfield 19), (10, .aload_n 0), (11, .iload_n 1), (12, .putfield 22), (15, .aload_n 0), (16, .iconst 0), (17, .putfield 25), (20, .aload_n 0), (21, .iload_n 3), (22, .putfield 28), (25, .aload_n 0), (26, .iconst 0), (27, .invokevirtual 31), (30, .return_)]
def am_c27 : List (Nat × Instr) := [(0, .aload_n 0), (1, .aload_n 1), (2, .getfield 15), (5, .putfield 15), (8, .aload_n 0), (9, .aload_n 1), (10, .getfield 19), (13, .putfield 19), (16, .aload_n 0), (17, .aload_n 1), (18, .getfield 22), (21, .putfield 22), (24, .aload_n 0), (25, .aload_n 1), (26, .getfield 25), (29, .putfield 25), (32, .aload_n 0), (33, .aload_n 1), (34, .getfield 28), (37, .putfield 28), (40, .aload_n 0), (41, .aload_n 1), (42, .getfield 35), (45, .putfield 35), (48, .aload_n 0), (49, .aload_n 1), (50, .getfield 38), (53, .putfield 38), (56, .aload_n 0), (57, .aload_n 1), (58, .getfield 41), (61, .putfield 41), (64, .aload_n 0), (65, .aload_n 1), (66, .getfield 45), (69, .putfield 45), (72, .aload_n 1), (73, .getfield 9), (76, .iconst 0), (77, .aload_n 0), (78, .getfield 9), (81, .iconst 0), (82, .bipush 8), (84, .invokestatic 48), (87, .return_)]
def am_c28 : List (Nat × Instr) := [(0, .aload_n 0), (1, .iload_n 1), (2, .putfield 35), (5, .aload_n 0), (6, .iconst 0), (7, .putfield 38), (10, .aload_n 0), (11, .iconst 1), (12, .putfield 41), (15, .return_)]
def am_c29 : List (Nat × Instr) := [(0, .aload_n 0), (1, .getfield 35), (4, .aload_n 0), (5, .getfield 45), (8, .if_icmp .lt 7), (11, .iconst 1), (12, .goto 4), (15, .iconst 0), (16, .ireturn)]
def am_c30 : List (Nat × Instr) := [(0, .aload_n 0), (1, .getfield 35), (4, .aload_n 0), (5, .getfield 45), (8, .if_icmp .ge 15), (11, .aload_n 0), (12, .getfield 9), (15, .aload_n 0), (16, .getfield 35), (19, .iaload), (20, .goto 4), (23, .iconst 0), (24, .ireturn)]
def am_c31 : List (Nat × Instr) := [(0, .aload_n 0), (1, .getfield 19), (4, .iload_n 1), (5, .if_icmp .le 9), (8, .iload_n 1), (9, .iconst 1), (10, .iadd), (11, .goto 6), (14, .iload_n 1), (15, .iconst 1), (16, .isub), (17, .ireturn)]
def am_c32 : List (Nat × Instr) := [(0, .iconst 0), (1, .istore_n 1), (2, .iconst 0), (3, .istore_n 2), (4, .iload_n 2), (5, .aload_n 0), (6, .getfield 45), (9, .if_icmp .ge 21), (12, .aload_n 0), (13, .getfield 9), (16, .iload_n 2), (17, .iaload), (18, .ifCond .ne 6), (21, .iinc 1 1), (24, .iinc 2 1), (27, .goto (-23)), (30, .iload_n 1), (31, .ireturn)]
def am_c33 : List (Nat × Instr) := [(0, .aload_n 0), (1, .invokespecial 3), (4, .aload_n 0), (5, .bipush 6), (7, .anewarray 9), (10, .putfield 11), (13, .aload_n 0), (14, .iconst 5), (15, .anewarray 17), (18, .putfield 19), (21, .aload_n 0), (22, .bipush 9), (24, .newarray .int), (26, .putfield 23), (29, .aload_n 0), (30, .bipush 16), (32, .anewarray 27), (35, .putfield 29), (38, .aload_n 0), (39, .bipush 16), (41, .newarray .int), (43, .putfield 33), (46, .aload_n 0), (47, .bipush 8), (49, .newarray .int), (51, .putfield 36), (54, .iconst 0), (55, .istore_n 1), (56, .iload_n 1), (57, .bipush 6), (59, .if_icmp .ge 22), (62, .aload_n 0), (63, .getfield 11), (66, .iload_n 1), (67, .new 9), (70, .dup), (71, .invokespecial 39), (74, .aastore), (75, .iinc 1 1), (78, .goto (-22)), (81, .iconst 0), (82, .istore_n 1), (83, .iload_n 1), (84, .iconst 5), (85, .if_icmp .ge 22), (88, .aload_n 0), (89, .getfield 19), (92, .iload_n 1), (93, .new 17), (96, .dup), (97, .invokespecial 40), (100, .aastore), (101, .iinc 1 1), (104, .goto (-21)), (107, .iconst 0), (108, .istore_n 1), (109, .iload_n 1), (110, .bipush 16), (112, .if_icmp .ge 22), (115, .aload_n 0), (116, .getfield 29), (119, .iload_n 1), (120, .new 27), (123, .dup), (124, .invokespecial 41), (127, .aastore), (128, .iinc 1 1), (131, .goto (-22)), (134, .return_)]
def am_c34 : List (Nat × Instr) := [(0, .aload_n 0), (1, .aload_n 1), (2, .getfield 42), (5, .putfield 42), (8, .aload_n 0), (9, .aload_n 1), (10, .getfield 46), (13, .putfield 46), (16, .iconst 0), (17, .istore_n 2), (18, .iload_n 2), (19, .aload_n 0), (20, .getfield 46), (23, .if_icmp .ge 24), (26, .aload_n 0), (27, .getfield 11), (30, .iload_n 2), (31, .aaload), (32, .aload_n 1), (33, .getfield 11), (36, .iload_n 2), (37, .aaload), (38, .invokevirtual 49), (41, .iinc 2 1), (44, .goto (-26)), (47, .iconst 0), (48, .istore_n 2), (49, .iload_n 2), (50, .iconst 5), (51, .if_icmp .ge 45), (54, .aload_n 0), (55, .getfield 19), (58, .iload_n 2), (59, .aaload), (60, .aload_n 1), (61, .getfield 19), (64, .iload_n 2), (65, .aaload), (66, .getfield 53), (69, .putfield 53), (72, .aload_n 0), (73, .getfield 19), (76, .iload_n 2), (77, .aaload), (78, .aload_n 1), (79, .getfield 19), (82, .iload_n 2), (83, .aaload), (84, .getfield 56), (87, .putfield 56), (90, .iinc 2 1), (93, .goto (-44)), (96, .aload_n 1), (97, .getfield 23), (100, .iconst 0), (101, .aload_n 0), (102, .getfield 23), (105, .iconst 0), (106, .bipush 9), (108, .invokestatic 59), (111, .aload_n 0), (112, .aload_n 1), (113, .getfield 65), (116, .putfield 65), (119, .iconst 0), (120, .istore_n 2), (121, .iload_n 2), (122, .aload_n 0), (123, .getfield 65), (126, .if_icmp .ge 24), (129, .aload_n 0), (130, .getfield 29), (133, .iload_n 2), (134, .aaload), (135, .aload_n 1), (136, .getfield 29), (139, .iload_n 2), (140, .aaload), (141, .invokevirtual 68), (144, .iinc 2 1), (147, .goto (-26)), (150, .aload_n 0), (151, .aload_n 1), (152, .getfield 71), (155, .putfield 71), (158, .aload_n 1), (159, .getfield 33), (162, .iconst 0), (163, .aload_n 0), (164, .getfield 33), (167, .iconst 0), (168, .bipush 16), (170, .invokestatic 59), (173, .return_)]
def am_c35 : List (Nat × Instr) := [(0, .iload_n 1), (1, .ifCond .lt 15), (4, .iload_n 1), (5, .aload_n 0), (6, .getfield 46), (9, .if_icmp .ge 7), (12, .iconst 1), (13, .goto 4), (16, .iconst 0), (17, .ireturn)]
def am_c36 : List (Nat × Instr) := [(0, .iload_n 1), (1, .ifCond .lt 17), (4, .iload_n 1), (5, .aload_n 0), (6, .getfield 46), (9, .iconst 1), (10, .isub), (11, .if_icmp .ge 7), (14, .iconst 1), (15, .goto 4), (18, .iconst 0), (19, .ireturn)]
def am_c37 : List (Nat × Instr) := [(0, .iload_n 1), (1, .ifCond .lt 15), (4, .iload_n 1), (5, .aload_n 0), (6, .getfield 65), (9, .if_icmp .ge 7), (12, .iconst 1), (13, .goto 4), (16, .iconst 0), (17, .ireturn)]
def am_c38 : List (Nat × Instr) := [(0, .aload_n 0), (1, .getfield 42), (4, .bipush 24), (6, .irem), (7, .ireturn)]
def am_c39 : List (Nat × Instr) := [(0, .aload_n 1), (1, .getfield 74), (4, .tableswitch 150 0 6 #[44, 62, 76, 94, 108, 122, 140]), (48, .aload_n 0), (49, .aload_n 1), (50, .getfield 79), (53, .aload_n 1), (54, .getfield 82), (57, .aload_n 1), (58, .getfield 85), (61, .aload_n 2), (62, .invokevirtual 88), (65, .ireturn), (66, .aload_n 0), (67, .aload_n 1), (68, .getfield 79), (71, .aload_n 1), (72, .getfield 82), (75, .aload_n 2), (76, .invokevirtual 92), (79, .ireturn), (80, .aload_n 0), (81, .aload_n 1), (82, .getfield 79), (85, .aload_n 1), (86, .getfield 82), (89, .aload_n 1), (90, .getfield 85), (93, .aload_n 2), (94, .invokevirtual 96), (97, .ireturn), (98, .aload_n 0), (99, .aload_n 1), (100, .getfield 79), (103, .aload_n 1), (104, .getfield 82), (107, .aload_n 2), (108, .invokevirtual 99), (111, .ireturn), (112, .aload_n 0), (113, .aload_n 1), (114, .getfield 79), (117, .aload_n 1), (118, .getfield 82), (121, .aload_n 2), (122, .invokevirtual 102), (125, .ireturn), (126, .aload_n 0), (127, .aload_n 1), (128, .getfield 79), (131, .aload_n 1), (132, .getfield 82), (135, .aload_n 1), (136, .getfield 85), (139, .aload_n 2), (140, .invokevirtual 105), (143, .ireturn), (144, .aload_n 0), (145, .aload_n 1), (146, .getfield 79), (149, .aload_n 2), (150, .invokevirtual 108), (153, .ireturn), (154, .aload_n 0), (155, .aload_n 1), (156, .getfield 79), (159, .aload_n 2), (160, .invokevirtual 112), (163, .ireturn)]
def am_c40 : List (Nat × Instr) := [(0, .aload_n 0), (1, .getfield 46), (4, .ifCond .eq 14), (7, .iload_n 3), (8, .iconst 1), (9, .if_icmp .lt 13), (12, .iload_n 3), (13, .bipush 9), (15, .if_icmp .gt 7), (18, .iconst 1), (19, .goto 4), (22, .iconst 0), (23, .istore 5), (25, .iload_n 1), (26, .invokestatic 115), (29, .ifCond .eq 15), (32, .iload_n 2), (33, .invokestatic 115), (36, .ifCond .eq 8), (39, .iload 5), (41, .ifCond .ne 11), (44, .aload 4), (46, .iconst 1), (47, .iconst 0), (48, .invokevirtual 119), (51, .ireturn), (52, .aload_n 0), (53, .getfield 46), (56, .bipush 6), (58, .if_icmp .lt 12), (61, .aload 4), (63, .iconst 2), (64, .bipush 6), (66, .invokevirtual 119), (69, .ireturn), (70, .aload_n 0), (71, .getfield 46), (74, .ifCond .le 28), (77, .aload_n 0), (78, .getfield 19), (81, .aload_n 0), (82, .getfield 46), (85, .iconst 1), (86, .isub), (87, .aaload), (88, .astore 6), (90, .aload 6), (92, .iload_n 3), (93, .putfield 53), (96, .aload 6), (98, .iconst 0), (99, .putfield 56), (102, .aload_n 0), (103, .getfield 11), (106, .aload_n 0), (107, .getfield 46), (110, .aaload), (111, .iload_n 1), (112, .iload_n 2), (113, .invokevirtual 125), (116, .aload_n 0), (117, .dup), (118, .getfield 46), (121, .iconst 1), (122, .iadd), (123, .putfield 46), (126, .aload_n 0), (127, .getfield 46), (130, .iconst 1), (131, .isub), (132, .ireturn)]
def am_c41 : List (Nat × Instr) := [(0, .iload_n 1), (1, .invokestatic 129), (4, .ifCond .eq 15), (7, .iload_n 2), (8, .iconst 1), (9, .if_icmp .lt 10), (12, .iload_n 2), (13, .sipush 150), (16, .if_icmp .le 10), (19, .aload_n 3), (20, .iconst 1), (21, .iconst 0), (22, .invokevirtual 119), (25, .ireturn), (26, .iconst 1), (27, .istore 4), (29, .iload 4), (31, .bipush 8), (33, .if_icmp .gt 35), (36, .iload 4), (38, .iload_n 1), (39, .if_icmp .eq 23), (42, .aload_n 0), (43, .getfield 23), (46, .iload 4), (48, .iaload), (49, .iload_n 2), (50, .if_icmp .ne 12), (53, .aload_n 3), (54, .bipush 6), (56, .iload 4), (58, .invokevirtual 119), (61, .ireturn), (62, .iinc 4 1), (65, .goto (-36)), (68, .aload_n 0), (69, .getfield 23), (72, .iload_n 1), (73, .iaload), (74, .istore 4), (76, .aload_n 0), (77, .getfield 23), (80, .iload_n 1), (81, .iload_n 2), (82, .iastore), (83, .iload 4), (85, .ireturn)]
def am_c42 : List (Nat × Instr) := [(0, .aload_n 0), (1, .iload_n 1), (2, .invokevirtual 132), (5, .ifCond .ne 11), (8, .aload 4), (10, .iconst 3), (11, .iload_n 1), (12, .invokevirtual 119), (15, .ireturn), (16, .iload_n 2), (17, .invokestatic 135), (20, .ifCond .eq 10), (23, .iload_n 3), (24, .invokestatic 135), (27, .ifCond .ne 11), (30, .aload 4), (32, .iconst 1), (33, .iconst 0), (34, .invokevirtual 119), (37, .ireturn), (38, .aload_n 0), (39, .getfield 11), (42, .iload_n 1), (43, .aaload), (44, .iload_n 2), (45, .putfield 138), (48, .aload_n 0), (49, .getfield 11), (52, .iload_n 1), (53, .aaload), (54, .iload_n 3), (55, .putfield 141), (58, .iload_n 3), (59, .iload_n 2), (60, .isub), (61, .bipush 24), (63, .iadd), (64, .bipush 24), (66, .irem), (67, .ireturn)]
def am_c43 : List (Nat × Instr) := [(0, .aload_n 0), (1, .iload_n 1), (2, .invokevirtual 144), (5, .ifCond .ne 10), (8, .aload_n 3), (9, .iconst 3), (10, .iload_n 1), (11, .invokevirtual 119), (14, .ireturn), (15, .iload_n 2), (16, .invokestatic 115), (19, .ifCond .ne 10), (22, .aload_n 3), (23, .iconst 1), (24, .iconst 0), (25, .invokevirtual 119), (28, .ireturn), (29, .aload_n 0), (30, .getfield 19), (33, .iload_n 1), (34, .aaload), (35, .getfield 56), (38, .istore 4), (40, .aload_n 0), (41, .getfield 19), (44, .iload_n 1), (45, .aaload), (46, .iload_n 2), (47, .putfield 56), (50, .iload 4), (52, .ireturn)]
def am_c44 : List (Nat × Instr) := [(0, .aload_n 0), (1, .iload_n 1), (2, .invokevirtual 132), (5, .ifCond .ne 10), (8, .aload_n 3), (9, .iconst 3), (10, .iload_n 1), (11, .invokevirtual 119), (14, .ireturn), (15, .iload_n 2), (16, .invokestatic 115), (19, .ifCond .ne 10), (22, .aload_n 3), (23, .iconst 1), (24, .iconst 0), (25, .invokevirtual 119), (28, .ireturn), (29, .aload_n 0), (30, .getfield 11), (33, .iload_n 1), (34, .aaload), (35, .getfield 147), (38, .istore 4), (40, .aload_n 0), (41, .getfield 11), (44, .iload_n 1), (45, .aaload), (46, .iload_n 2), (47, .putfield 147), (50, .iload 4), (52, .ireturn)]
def am_c45_0 : List (Nat × Instr) := [(0, .aload_n 0), (1, .iload_n 1), (2, .invokevirtual 132), (5, .ifCond .ne 11), (8, .aload 4), (10, .iconst 3), (11, .iload_n 1), (12, .invokevirtual 119), (15, .ireturn), (16, .aload_n 0), (17, .iload_n 2), (18, .invokevirtual 132), (21, .ifCond .ne 11), (24, .aload 4), (26, .iconst 3), (27, .iload_n 2), (28, .invokevirtual 119), (31, .ireturn), (32, .iload_n 1), (33, .iload_n 2), (34, .if_icmp .ne 11), (37, .aload 4), (39, .iconst 5), (40, .iload_n 1), (41, .invokevirtual 119), (44, .ireturn), (45, .aload_n 0), (46, .iload_n 3), (47, .invokevirtual 150), (50, .istore 5), (52, .iload 5), (54, .ifCond .ne 11), (57, .aload 4), (59, .iconst 1), (60, .iconst 0), (61, .invokevirtual 119), (64, .ireturn), (65, .iconst 0), (66, .istore 6), (68, .iload 6)]
def am_c45_1 : List (Nat × Instr) := [(70, .iload 5), (72, .if_icmp .ge 38), (75, .aload_n 0), (76, .getfield 23), (79, .aload_n 0), (80, .getfield 36), (83, .iload 6), (85, .iaload), (86, .iaload), (87, .ifCond .ne 17), (90, .aload 4), (92, .iconst 4), (93, .aload_n 0), (94, .getfield 36), (97, .iload 6), (99, .iaload), (100, .invokevirtual 119), (103, .ireturn), (104, .iinc 6 1), (107, .goto (-39)), (110, .aload_n 0), (111, .getfield 65), (114, .bipush 16), (116, .if_icmp .lt 12), (119, .aload 4), (121, .iconst 2), (122, .bipush 16), (124, .invokevirtual 119), (127, .ireturn), (128, .aload_n 0), (129, .getfield 29), (132, .aload_n 0), (133, .getfield 65), (136, .aaload), (137, .astore 6), (139, .aload 6), (141, .iload_n 1), (142, .iload_n 2), (143, .aload_n 0), (144, .getfield 42)]
def am_c45_2 : List (Nat × Instr) := [(147, .invokevirtual 154), (150, .aload 6), (152, .iload 5), (154, .putfield 157), (157, .aload_n 0), (158, .getfield 36), (161, .iconst 0), (162, .aload 6), (164, .getfield 160), (167, .iconst 0), (168, .iload 5), (170, .invokestatic 59), (173, .aload_n 0), (174, .getfield 11), (177, .iload_n 1), (178, .aaload), (179, .aload_n 0), (180, .getfield 65), (183, .invokevirtual 163), (186, .aload_n 0), (187, .dup), (188, .getfield 65), (191, .iconst 1), (192, .iadd), (193, .putfield 65), (196, .aload_n 0), (197, .getfield 65), (200, .iconst 1), (201, .isub), (202, .ireturn)]
def am_c45 : List (Nat × Instr) := am_c45_0 ++ (am_c45_1 ++ (am_c45_2))
def am_c46 : List (Nat × Instr) := [(0, .iload_n 1), (1, .iconst 1), (2, .if_icmp .lt 9), (5, .iload_n 1), (6, .ldc 167), (8, .if_icmp .le 5), (11, .iconst 0), (12, .ireturn), (13, .iconst 1), (14, .istore_n 2), (15, .bipush 10), (17, .istore_n 3), (18, .iload_n 2), (19, .bipush 8), (21, .if_icmp .ge 19), (24, .iload_n 1), (25, .iload_n 3), (26, .if_icmp .lt 14), (29, .iinc 2 1), (32, .iload_n 3), (33, .bipush 10), (35, .imul), (36, .istore_n 3), (37, .goto (-19)), (40, .iload_n 1), (41, .istore 4), (43, .iload_n 2), (44, .iconst 1), (45, .isub), (46, .istore 5), (48, .iload 5), (50, .ifCond .lt 42), (53, .iload 4), (55, .bipush 10), (57, .irem), (58, .istore 6), (60, .iload 6), (62, .invokestatic 129), (65, .ifCond .ne 5), (68, .iconst 0), (69, .ireturn), (70, .aload_n 0), (71, .getfield 36), (74, .iload 5), (76, .iload 6), (78, .iastore), (79, .iload 4), (81, .bipush 10), (83, .idiv), (84, .istore 4), (86, .iinc 5 (-1)), (89, .goto (-41)), (92, .iload_n 2), (93, .ireturn)]
def am_c47 : List (Nat × Instr) := [(0, .aload_n 0), (1, .iload_n 1), (2, .invokevirtual 168), (5, .ifCond .ne 10), (8, .aload_n 2), (9, .iconst 3), (10, .iload_n 1), (11, .invokevirtual 119), (14, .ireturn), (15, .aload_n 0), (16, .getfield 29), (19, .iload_n 1), (20, .aaload), (21, .astore_n 3), (22, .aload_n 3), (23, .getfield 171), (26, .ifCond .eq 14), (29, .aload_n 2), (30, .bipush 7), (32, .aload_n 3), (33, .getfield 171), (36, .invokevirtual 119), (39, .ireturn), (40, .aload_n 3), (41, .iconst 2), (42, .putfield 171), (45, .aload_n 0), (46, .aload_n 3), (47, .getfield 174), (50, .invokevirtual 132), (53, .ifCond .eq 16), (56, .aload_n 0), (57, .getfield 11), (60, .aload_n 3), (61, .getfield 174), (64, .aaload), (65, .iload_n 1), (66, .invokevirtual 177), (69, .aload_n 3), (70, .getfield 174), (73, .ireturn)]
def am_c48 : List (Nat × Instr) := [(0, .iload_n 1), (1, .iconst 1), (2, .if_icmp .lt 9), (5, .iload_n 1), (6, .bipush 96), (8, .if_icmp .le 10), (11, .aload_n 2), (12, .iconst 1), (13, .iconst 0), (14, .invokevirtual 119), (17, .ireturn), (18, .aload_n 0), (19, .getfield 71), (22, .istore_n 3), (23, .iconst 0), (24, .istore 4), (26, .iload 4), (28, .iload_n 1), (29, .if_icmp .ge 13), (32, .aload_n 0), (33, .invokevirtual 180), (36, .iinc 4 1), (39, .goto (-13)), (42, .aload_n 0), (43, .getfield 71), (46, .iload_n 3), (47, .isub), (48, .ireturn)]
def am_c49_0 : List (Nat × Instr) := [(0, .iconst 0), (1, .istore_n 1), (2, .aload_n 0), (3, .invokevirtual 183), (6, .istore_n 2), (7, .iconst 0), (8, .istore_n 3), (9, .iload_n 3), (10, .aload_n 0), (11, .getfield 46), (14, .if_icmp .ge 126), (17, .aload_n 0), (18, .getfield 11), (21, .iload_n 3), (22, .aaload), (23, .invokevirtual 187), (26, .istore 4), (28, .aload_n 0), (29, .iload 4), (31, .invokevirtual 168), (34, .ifCond .eq 100), (37, .aload_n 0), (38, .getfield 11), (41, .iload_n 3), (42, .aaload), (43, .iload_n 2), (44, .invokevirtual 190), (47, .ifCond .ne 87), (50, .aload_n 0), (51, .getfield 29), (54, .iload 4), (56, .aaload), (57, .iload_n 3), (58, .invokevirtual 193), (61, .istore 5), (63, .iload_n 1), (64, .iload 5), (66, .ishr), (67, .iconst 1), (68, .iand)]
def am_c49_1 : List (Nat × Instr) := [(69, .ifCond .ne 7), (72, .iconst 1), (73, .goto 4), (76, .iconst 0), (77, .istore 6), (79, .iload_n 1), (80, .iconst 1), (81, .iload 5), (83, .ishl), (84, .ior), (85, .istore_n 1), (86, .aload_n 0), (87, .getfield 11), (90, .iload_n 3), (91, .aaload), (92, .dup), (93, .getfield 196), (96, .iconst 1), (97, .iadd), (98, .putfield 196), (101, .aload_n 0), (102, .aload_n 0), (103, .getfield 29), (106, .iload 4), (108, .aaload), (109, .iload 5), (111, .iload 6), (113, .ifCond .eq 17), (116, .aload_n 0), (117, .iload_n 3), (118, .iload 5), (120, .invokevirtual 199), (123, .ifCond .eq 7), (126, .iconst 1), (127, .goto 4), (130, .iconst 0), (131, .invokevirtual 203), (134, .iinc 3 1), (137, .goto (-128)), (140, .iconst 0)]
def am_c49_2 : List (Nat × Instr) := [(141, .istore_n 3), (142, .iload_n 3), (143, .aload_n 0), (144, .getfield 46), (147, .if_icmp .ge 56), (150, .aload_n 0), (151, .getfield 11), (154, .iload_n 3), (155, .aaload), (156, .invokevirtual 187), (159, .istore 4), (161, .aload_n 0), (162, .iload 4), (164, .invokevirtual 168), (167, .ifCond .eq 30), (170, .aload_n 0), (171, .getfield 29), (174, .iload 4), (176, .aaload), (177, .invokevirtual 207), (180, .ifCond .eq 17), (183, .aload_n 0), (184, .aload_n 0), (185, .getfield 29), (188, .iload 4), (190, .aaload), (191, .iload 4), (193, .iload_n 3), (194, .invokevirtual 211), (197, .iinc 3 1), (200, .goto (-58)), (203, .aload_n 0), (204, .invokevirtual 215), (207, .return_)]
def am_c49 : List (Nat × Instr) := am_c49_0 ++ (am_c49_1 ++ (am_c49_2))
def am_c50 : List (Nat × Instr) := [(0, .aload_n 1), (1, .invokevirtual 218), (4, .istore 4), (6, .aload_n 1), (7, .dup), (8, .getfield 221), (11, .iconst 1), (12, .iadd), (13, .putfield 221), (16, .aload_n 1), (17, .aload_n 1), (18, .getfield 222), (21, .ifCond .eq 11), (24, .iload_n 3), (25, .ifCond .eq 7), (28, .iconst 1), (29, .goto 4), (32, .iconst 0), (33, .putfield 222), (36, .aload_n 1), (37, .getfield 221), (40, .aload_n 0), (41, .iload 4), (43, .invokevirtual 226), (46, .if_icmp .ge 4), (49, .return_), (50, .iload 4), (52, .invokestatic 129), (55, .ifCond .eq 37), (58, .aload_n 1), (59, .getfield 222), (62, .ifCond .ne 30), (65, .aload_n 1), (66, .invokevirtual 229), (69, .aload_n 0), (70, .iload_n 2), (71, .invokevirtual 132), (74, .ifCond .eq 18), (77, .aload_n 0), (78, .getfield 11), (81, .iload_n 2), (82, .aaload), (83, .dup), (84, .getfield 232), (87, .iconst 1), (88, .iadd), (89, .putfield 232), (92, .aload_n 1), (93, .aload_n 1), (94, .getfield 235), (97, .iconst 1), (98, .iadd), (99, .invokevirtual 238), (102, .return_)]
def am_c51 : List (Nat × Instr) := [(0, .aload_n 0), (1, .getfield 11), (4, .iload_n 3), (5, .aaload), (6, .iload_n 2), (7, .invokevirtual 177), (10, .aload_n 1), (11, .aload_n 1), (12, .iload_n 3), (13, .invokevirtual 193), (16, .putfield 174), (19, .aload_n 1), (20, .iconst 0), (21, .invokevirtual 238), (24, .aload_n 1), (25, .getfield 174), (28, .aload_n 1), (29, .getfield 241), (32, .if_icmp .ne 12), (35, .aload_n 0), (36, .aload_n 1), (37, .iload_n 2), (38, .invokevirtual 244), (41, .goto 27), (44, .aload_n 0), (45, .aload_n 1), (46, .getfield 174), (49, .invokevirtual 132), (52, .ifCond .eq 16), (55, .aload_n 0), (56, .getfield 11), (59, .aload_n 1), (60, .getfield 174), (63, .aaload), (64, .iload_n 2), (65, .invokevirtual 163), (68, .return_)]
def am_c52 : List (Nat × Instr) := [(0, .aload_n 1), (1, .iconst 1), (2, .putfield 171), (5, .aload_n 0), (6, .getfield 71), (9, .bipush 16), (11, .if_icmp .ge 23), (14, .aload_n 0), (15, .getfield 33), (18, .aload_n 0), (19, .getfield 71), (22, .iload_n 2), (23, .iastore), (24, .aload_n 0), (25, .dup), (26, .getfield 71), (29, .iconst 1), (30, .iadd), (31, .putfield 71), (34, .return_)]
def am_c53 : List (Nat × Instr) := [(0, .aload_n 0), (1, .dup), (2, .getfield 42), (5, .iconst 1), (6, .iadd), (7, .putfield 42), (10, .aload_n 0), (11, .getfield 42), (14, .bipush 6), (16, .irem), (17, .ifCond .ne 38), (20, .iconst 0), (21, .istore_n 1), (22, .iload_n 1), (23, .iconst 5), (24, .if_icmp .ge 31), (27, .aload_n 0), (28, .getfield 19), (31, .iload_n 1), (32, .aaload), (33, .aload_n 0), (34, .getfield 19), (37, .iload_n 1), (38, .aaload), (39, .getfield 56), (42, .iload_n 1), (43, .invokestatic 248), (46, .putfield 56), (49, .iinc 1 1), (52, .goto (-30)), (55, .return_)]
def am_c54 : List (Nat × Instr) := [(0, .aload_n 0), (1, .getfield 19), (4, .iload_n 1), (5, .iload_n 2), (6, .if_icmp .ge 7), (9, .iload_n 1), (10, .goto 4), (13, .iload_n 2), (14, .aaload), (15, .astore_n 3), (16, .bipush 24), (18, .aload_n 0), (19, .getfield 11), (22, .iload_n 1), (23, .aaload), (24, .getfield 251), (27, .isub), (28, .aload_n 0), (29, .getfield 11), (32, .iload_n 2), (33, .aaload), (34, .getfield 147), (37, .iadd), (38, .iconst 2), (39, .aload_n 3), (40, .getfield 53), (43, .imul), (44, .isub), (45, .aload_n 3), (46, .getfield 56), (49, .isub), (50, .ireturn)]
def am_c55 : List (Nat × Instr) := [(0, .aload_n 0), (1, .iload_n 2), (2, .invokevirtual 132), (5, .ifCond .eq 30), (8, .aload_n 0), (9, .getfield 11), (12, .iload_n 2), (13, .aaload), (14, .getfield 147), (17, .ifCond .eq 18), (20, .aload_n 0), (21, .iload_n 1), (22, .iload_n 2), (23, .invokevirtual 254), (26, .bipush 10), (28, .if_icmp .lt 7), (31, .iconst 1), (32, .goto 4), (35, .iconst 0), (36, .ireturn)]
def am_c56 : List (Nat × Instr) := [(0, .iconst 0), (1, .istore_n 2), (2, .iconst 0), (3, .istore_n 3), (4, .iload_n 3), (5, .aload_n 0), (6, .getfield 65), (9, .if_icmp .ge 33), (12, .aload_n 0), (13, .getfield 29), (16, .iload_n 3), (17, .aaload), (18, .getfield 171), (21, .ifCond .ne 15), (24, .aload_n 0), (25, .iload_n 3), (26, .iload_n 1), (27, .invokevirtual 257), (30, .ifCond .eq 6), (33, .iinc 2 1), (36, .iinc 3 1), (39, .goto (-35)), (42, .iload_n 2), (43, .ireturn)]
def am_c57 : List (Nat × Instr) := [(0, .aload_n 0), (1, .getfield 29), (4, .iload_n 1), (5, .aaload), (6, .invokevirtual 260), (9, .istore_n 3), (10, .aload_n 0), (11, .getfield 29), (14, .iload_n 2), (15, .aaload), (16, .invokevirtual 260), (19, .istore 4), (21, .iload_n 3), (22, .iload 4), (24, .if_icmp .eq 15), (27, .iload_n 3), (28, .iload 4), (30, .if_icmp .le 7), (33, .iconst 1), (34, .goto 4), (37, .iconst 0), (38, .ireturn), (39, .aload_n 0), (40, .getfield 29), (43, .iload_n 1), (44, .aaload), (45, .getfield 263), (48, .aload_n 0), (49, .getfield 29), (52, .iload_n 2), (53, .aaload), (54, .getfield 263), (57, .if_icmp .eq 30), (60, .aload_n 0), (61, .getfield 29), (64, .iload_n 1), (65, .aaload), (66, .getfield 263), (69, .aload_n 0), (70, .getfield 29), (73, .iload_n 2), (74, .aaload), (75, .getfield 263), (78, .if_icmp .ge 7), (81, .iconst 1), (82, .goto 4), (85, .iconst 0), (86, .ireturn), (87, .iload_n 1), (88, .iload_n 2), (89, .if_icmp .ge 7), (92, .iconst 1), (93, .goto 4), (96, .iconst 0), (97, .ireturn)]
def am_c58 : List (Nat × Instr) := [(0, .iconst 0), (1, .istore_n 1), (2, .iconst 1), (3, .istore_n 2), (4, .iload_n 2), (5, .bipush 8), (7, .if_icmp .gt 21), (10, .aload_n 0), (11, .getfield 23), (14, .iload_n 2), (15, .iaload), (16, .ifCond .eq 6), (19, .iinc 1 1), (22, .iinc 2 1), (25, .goto (-21)), (28, .iload_n 1), (29, .ireturn)]
def am_c59 : List (Nat × Instr) := [(0, .iconst 0), (1, .istore_n 2), (2, .iconst 0), (3, .istore_n 3), (4, .iload_n 3), (5, .aload_n 0), (6, .getfield 65), (9, .if_icmp .ge 25), (12, .aload_n 0), (13, .getfield 29), (16, .iload_n 3), (17, .aaload), (18, .getfield 171), (21, .iload_n 1), (22, .if_icmp .ne 6), (25, .iinc 2 1), (28, .iinc 3 1), (31, .goto (-27)), (34, .iload_n 2), (35, .ireturn)]
def am_c60 : List (Nat × Instr) := [(0, .iconst 0), (1, .istore_n 1), (2, .iconst 0), (3, .istore_n 2), (4, .iload_n 2), (5, .aload_n 0), (6, .getfield 46), (9, .if_icmp .ge 21), (12, .iload_n 1), (13, .aload_n 0), (14, .getfield 11), (17, .iload_n 2), (18, .aaload), (19, .getfield 196), (22, .iadd), (23, .istore_n 1), (24, .iinc 2 1), (27, .goto (-23)), (30, .iload_n 1), (31, .ireturn)]
def am_c61 : List (Nat × Instr) := [(0, .iconst 0), (1, .istore_n 1), (2, .iconst 0), (3, .istore_n 2), (4, .iload_n 2), (5, .aload_n 0), (6, .getfield 46), (9, .if_icmp .ge 28), (12, .aload_n 0), (13, .getfield 11), (16, .iload_n 2), (17, .aaload), (18, .aload_n 0), (19, .invokevirtual 183), (22, .invokevirtual 190), (25, .ifCond .eq 6), (28, .iinc 1 1), (31, .iinc 2 1), (34, .goto (-30)), (37, .iload_n 1), (38, .ireturn)]
def am_c62 : List (Nat × Instr) := [(0, .aload_n 0), (1, .invokespecial 3), (4, .aload_n 0), (5, .iconst 0), (6, .putfield 9), (9, .return_)]
def am_c63 : List (Nat × Instr) := [(0, .aload_n 0), (1, .iload_n 1), (2, .putfield 9), (5, .aload_n 0), (6, .iload_n 2), (7, .putfield 15), (10, .iconst (-1)), (11, .ireturn)]
def am_c64 : List (Nat × Instr) := [(0, .aload_n 0), (1, .invokespecial 1), (4, .return_)]
def am_c65 : List (Nat × Instr) := [(0, .aload_n 0), (1, .invokespecial 3), (4, .aload_n 0), (5, .new 9), (8, .dup), (9, .invokespecial 11), (12, .putfield 12), (15, .aload_n 0), (16, .new 9), (19, .dup), (20, .invokespecial 11), (23, .putfield 16), (26, .aload_n 0), (27, .new 9), (30, .dup), (31, .invokespecial 11), (34, .putfield 19), (37, .aload_n 0), (38, .new 22), (41, .dup), (42, .invokespecial 24), (45, .putfield 25), (48, .aload_n 0), (49, .new 29), (52, .dup), (53, .invokespecial 31), (56, .putfield 32), (59, .aload_n 0), (60, .new 36), (63, .dup), (64, .invokespecial 38), (67, .putfield 39), (70, .aload_n 0), (71, .new 43), (74, .dup), (75, .invokespecial 45), (78, .putfield 46), (81, .aload_n 0), (82, .iconst (-1)), (83, .putfield 50), (86, .aload_n 0), (87, .bipush 14), (89, .newarray .char), (91, .putfield 54), (94, .return_)]
def am_c66 : List (Nat × Instr) := [(0, .aload_n 0), (1, .getfield 39), (4, .iconst 0), (5, .iload_n 1), (6, .iload_n 2), (7, .iload_n 3), (8, .invokevirtual 58), (11, .aload_n 0), (12, .invokevirtual 62), (15, .ireturn)]
def am_c67 : List (Nat × Instr) := [(0, .aload_n 0), (1, .getfield 39), (4, .iconst 1), (5, .iload_n 1), (6, .iload_n 2), (7, .iconst 0), (8, .invokevirtual 58), (11, .aload_n 0), (12, .invokevirtual 62), (15, .ireturn)]
def am_c68 : List (Nat × Instr) := [(0, .aload_n 0), (1, .getfield 39), (4, .iconst 2), (5, .iload_n 1), (6, .iload_n 2), (7, .iload_n 3), (8, .invokevirtual 58), (11, .aload_n 0), (12, .invokevirtual 62), (15, .ireturn)]
def am_c69 : List (Nat × Instr) := [(0, .aload_n 0), (1, .getfield 39), (4, .iconst 3), (5, .iload_n 1), (6, .iload_n 2), (7, .iconst 0), (8, .invokevirtual 58), (11, .aload_n 0), (12, .invokevirtual 62), (15, .ireturn)]
def am_c70 : List (Nat × Instr) := [(0, .aload_n 0), (1, .getfield 39), (4, .iconst 4), (5, .iload_n 1), (6, .iload_n 2), (7, .iconst 0), (8, .invokevirtual 58), (11, .aload_n 0), (12, .invokevirtual 62), (15, .ireturn)]
def am_c71 : List (Nat × Instr) := [(0, .aload_n 0), (1, .getfield 39), (4, .iconst 5), (5, .iload_n 1), (6, .iload_n 2), (7, .iload_n 3), (8, .invokevirtual 58), (11, .aload_n 0), (12, .invokevirtual 62), (15, .ireturn)]
def am_c72 : List (Nat × Instr) := [(0, .aload_n 0), (1, .getfield 39), (4, .bipush 6), (6, .iload_n 1), (7, .iconst 0), (8, .iconst 0), (9, .invokevirtual 58), (12, .aload_n 0), (13, .invokevirtual 62), (16, .ireturn)]
def am_c73 : List (Nat × Instr) := [(0, .aload_n 0), (1, .getfield 39), (4, .bipush 7), (6, .iload_n 1), (7, .iconst 0), (8, .iconst 0), (9, .invokevirtual 58), (12, .aload_n 0), (13, .invokevirtual 62), (16, .ireturn)]
def am_c74 : List (Nat × Instr) := [(0, .aload_n 0), (1, .getfield 25), (4, .invokevirtual 66), (7, .aload_n 0), (8, .getfield 12), (11, .invokevirtual 70), (14, .aload_n 0), (15, .getfield 12), (18, .aload_n 0), (19, .getfield 39), (22, .aload_n 0), (23, .getfield 32), (26, .invokevirtual 74), (29, .istore_n 1), (30, .iload_n 1), (31, .iconst (-1)), (32, .if_icmp .ne 19), (35, .aload_n 0), (36, .getfield 32), (39, .iconst 0), (40, .putfield 78), (43, .new 81), (46, .dup), (47, .invokespecial 83), (50, .athrow), (51, .aload_n 0), (52, .getfield 25), (55, .invokevirtual 84), (58, .iload_n 1), (59, .ireturn)]
def am_c75 : List (Nat × Instr) := [(0, .aload_n 0), (1, .iload_n 1), (2, .invokevirtual 87), (5, .astore_n 3), (6, .iload_n 2), (7, .tableswitch 100 0 7 #[45, 50, 55, 60, 65, 70, 75, 80]), (52, .aload_n 3), (53, .getfield 91), (56, .ireturn), (57, .aload_n 3), (58, .getfield 96), (61, .ireturn), (62, .aload_n 3), (63, .getfield 99), (66, .ireturn), (67, .aload_n 3), (68, .getfield 102), (71, .ireturn), (72, .aload_n 3), (73, .getfield 105), (76, .ireturn), (77, .aload_n 3), (78, .getfield 108), (81, .ireturn), (82, .aload_n 3), (83, .getfield 111), (86, .ireturn), (87, .aload_n 3), (88, .aload_n 0), (89, .getfield 12), (92, .invokevirtual 114), (95, .invokevirtual 117), (98, .ifCond .eq 7), (101, .iconst 1), (102, .goto 4), (105, .iconst 0), (106, .ireturn), (107, .new 121), (110, .dup), (111, .invokespecial 123), (114, .athrow)]
def am_c76 : List (Nat × Instr) := [(0, .aload_n 0), (1, .iload_n 1), (2, .invokevirtual 124), (5, .astore_n 3), (6, .iload_n 2), (7, .lookupswitch 35 #[(0, 25), (1, 30)]), (32, .aload_n 3), (33, .getfield 128), (36, .ireturn), (37, .aload_n 3), (38, .getfield 133), (41, .ireturn), (42, .new 121), (45, .dup), (46, .invokespecial 123), (49, .athrow)]
def am_c77 : List (Nat × Instr) := [(0, .iload_n 1), (1, .invokestatic 136), (4, .ifCond .ne 11), (7, .new 121), (10, .dup), (11, .invokespecial 123), (14, .athrow), (15, .aload_n 0), (16, .getfield 12), (19, .getfield 139), (22, .iload_n 1), (23, .iaload), (24, .ireturn)]
def am_c78 : List (Nat × Instr) := [(0, .aload_n 0), (1, .getfield 12), (4, .iload_n 1), (5, .aload_n 0), (6, .iload_n 1), (7, .iload_n 2), (8, .invokevirtual 143), (11, .invokevirtual 147), (14, .ireturn)]
def am_c79 : List (Nat × Instr) := [(0, .aload_n 0), (1, .getfield 12), (4, .iload_n 1), (5, .aload_n 0), (6, .iload_n 1), (7, .iload_n 2), (8, .invokevirtual 143), (11, .invokevirtual 151), (14, .ireturn)]
def am_c80 : List (Nat × Instr) := [(0, .aload_n 0), (1, .iload_n 1), (2, .invokevirtual 124), (5, .getfield 133), (8, .istore_n 3), (9, .iload_n 2), (10, .ifCond .lt 10), (13, .iload_n 2), (14, .sipush 200), (17, .if_icmp .le 11), (20, .new 121), (23, .dup), (24, .invokespecial 123), (27, .athrow), (28, .iconst 1), (29, .istore 4), (31, .iload 4), (33, .iload_n 2), (34, .if_icmp .gt 31), (37, .aload_n 0), (38, .getfield 12), (41, .getfield 155), (44, .iload 4), (46, .iadd), (47, .bipush 6), (49, .irem), (50, .ifCond .ne 9), (53, .iload_n 3), (54, .iload_n 1), (55, .invokestatic 158), (58, .istore_n 3), (59, .iinc 4 1), (62, .goto (-31)), (65, .iload_n 3), (66, .ireturn)]
def am_c81 : List (Nat × Instr) := [(0, .aload_n 0), (1, .getfield 12), (4, .getfield 161), (7, .ifCond .ne 11), (10, .new 164), (13, .dup), (14, .invokespecial 166), (17, .athrow), (18, .iconst 0), (19, .istore_n 1), (20, .iconst 0), (21, .istore_n 2), (22, .iload_n 2), (23, .aload_n 0), (24, .getfield 12), (27, .getfield 161), (30, .if_icmp .ge 24), (33, .iload_n 1), (34, .aload_n 0), (35, .getfield 12), (38, .getfield 167), (41, .iload_n 2), (42, .aaload), (43, .getfield 96), (46, .iadd), (47, .istore_n 1), (48, .iinc 2 1), (51, .goto (-29)), (54, .iload_n 1), (55, .i2f), (56, .aload_n 0), (57, .getfield 12), (60, .getfield 161), (63, .i2f), (64, .fdiv), (65, .freturn)]
def am_c82 : List (Nat × Instr) := [(0, .aload_n 0), (1, .getfield 12), (4, .iload_n 1), (5, .invokevirtual 171), (8, .ifCond .ne 11), (11, .new 174), (14, .dup), (15, .invokespecial 176), (18, .athrow), (19, .aload_n 0), (20, .getfield 12), (23, .getfield 167), (26, .iload_n 1), (27, .aaload), (28, .areturn)]
def am_c83 : List (Nat × Instr) := [(0, .aload_n 0), (1, .getfield 12), (4, .iload_n 1), (5, .invokevirtual 177), (8, .ifCond .ne 11), (11, .new 174), (14, .dup), (15, .invokespecial 176), (18, .athrow), (19, .aload_n 0), (20, .getfield 12), (23, .getfield 180), (26, .iload_n 1), (27, .aaload), (28, .areturn)]
def am_c84 : List (Nat × Instr) := [(0, .aload_n 0), (1, .getfield 12), (4, .iload_n 1), (5, .invokevirtual 171), (8, .ifCond .ne 11), (11, .new 174), (14, .dup), (15, .invokespecial 176), (18, .athrow), (19, .iload_n 2), (20, .ifCond .eq 9), (23, .iload_n 1), (24, .iconst 1), (25, .iadd), (26, .goto 6), (29, .iload_n 1), (30, .iconst 1), (31, .isub), (32, .istore_n 3), (33, .aload_n 0), (34, .getfield 12), (37, .iload_n 3), (38, .invokevirtual 171), (41, .ifCond .ne 11), (44, .new 184), (47, .dup), (48, .invokespecial 186), (51, .athrow), (52, .iload_n 3), (53, .ireturn)]
def am_c85 : List (Nat × Instr) := [(0, .aload_n 0), (1, .iload_n 1), (2, .invokevirtual 187), (5, .astore_n 3), (6, .iload_n 2), (7, .tableswitch 94 0 8 #[49, 54, 59, 64, 69, 74, 79, 84, 89]), (56, .aload_n 3), (57, .getfield 191), (60, .ireturn), (61, .aload_n 3), (62, .getfield 196), (65, .ireturn), (66, .aload_n 3), (67, .getfield 199), (70, .ireturn), (71, .aload_n 3), (72, .getfield 202), (75, .ireturn), (76, .aload_n 3), (77, .invokevirtual 205), (80, .ireturn), (81, .aload_n 3), (82, .getfield 208), (85, .ireturn), (86, .aload_n 3), (87, .getfield 211), (90, .ireturn), (91, .aload_n 3), (92, .getfield 212), (95, .ireturn), (96, .aload_n 3), (97, .getfield 215), (100, .ireturn), (101, .new 121), (104, .dup), (105, .invokespecial 123), (108, .athrow)]
def am_c86 : List (Nat × Instr) := [(0, .aload_n 0), (1, .iload_n 1), (2, .invokevirtual 187), (5, .astore_n 3), (6, .iload_n 2), (7, .ifCond .lt 11), (10, .iload_n 2), (11, .aload_n 3), (12, .getfield 202), (15, .if_icmp .lt 11), (18, .new 174), (21, .dup), (22, .invokespecial 176), (25, .athrow), (26, .aload_n 3), (27, .getfield 218), (30, .iload_n 2), (31, .iaload), (32, .ireturn)]
def am_c87 : List (Nat × Instr) := [(0, .aload_n 0), (1, .iload_n 1), (2, .invokevirtual 187), (5, .astore_n 2), (6, .iconst 0), (7, .istore_n 3), (8, .iconst 0), (9, .istore 4), (11, .iload 4), (13, .aload_n 2), (14, .getfield 202), (17, .if_icmp .ge 31), (20, .aload_n 2), (21, .getfield 218), (24, .iload 4), (26, .iaload), (27, .ifCond .eq 15), (30, .iload_n 3), (31, .iconst 1), (32, .aload_n 2), (33, .getfield 218), (36, .iload 4), (38, .iaload), (39, .ishl), (40, .ior), (41, .istore_n 3), (42, .iinc 4 1), (45, .goto (-34)), (48, .iload_n 3), (49, .ireturn)]
def am_c88 : List (Nat × Instr) := [(0, .aload_n 0), (1, .iload_n 1), (2, .invokevirtual 87), (5, .astore_n 3), (6, .iload_n 2), (7, .ifCond .lt 11), (10, .iload_n 2), (11, .aload_n 3), (12, .getfield 105), (15, .if_icmp .lt 11), (18, .new 184), (21, .dup), (22, .invokespecial 186), (25, .athrow), (26, .aload_n 3), (27, .getfield 221), (30, .iload_n 2), (31, .iaload), (32, .ireturn)]
def am_c89 : List (Nat × Instr) := [(0, .iload_n 1), (1, .ifCond .lt 14), (4, .iload_n 1), (5, .aload_n 0), (6, .getfield 12), (9, .getfield 224), (12, .if_icmp .lt 11), (15, .new 184), (18, .dup), (19, .invokespecial 186), (22, .athrow), (23, .aload_n 0), (24, .getfield 12), (27, .getfield 227), (30, .iload_n 1), (31, .iaload), (32, .ireturn)]
def am_c90 : List (Nat × Instr) := [(0, .aload_n 0), (1, .aload_n 0), (2, .iload_n 1), (3, .invokevirtual 187), (6, .iload_n 1), (7, .invokevirtual 230), (10, .istore_n 2), (11, .iload_n 2), (12, .iconst (-1)), (13, .if_icmp .ne 11), (16, .new 184), (19, .dup), (20, .invokespecial 186), (23, .athrow), (24, .iload_n 2), (25, .ireturn)]
def am_c91 : List (Nat × Instr) := [(0, .aload_n 0), (1, .aload_n 0), (2, .iload_n 1), (3, .invokevirtual 187), (6, .iload_n 1), (7, .invokevirtual 230), (10, .iconst (-1)), (11, .if_icmp .ne 11), (14, .new 184), (17, .dup), (18, .invokespecial 186), (21, .athrow), (22, .aload_n 0), (23, .getfield 16), (26, .getfield 234), (29, .iload_n 1), (30, .aaload), (31, .invokevirtual 205), (34, .ireturn)]
def am_c92 : List (Nat × Instr) := [(0, .aload_n 1), (1, .getfield 212), (4, .ifCond .eq 5), (7, .iconst (-1)), (8, .ireturn), (9, .aload_n 0), (10, .getfield 16), (13, .aload_n 0), (14, .getfield 12), (17, .invokevirtual 70), (20, .iconst 1), (21, .istore_n 3), (22, .iload_n 3), (23, .sipush 400), (26, .if_icmp .gt 34), (29, .aload_n 0), (30, .getfield 16), (33, .invokevirtual 238), (36, .aload_n 0), (37, .getfield 16), (40, .getfield 234), (43, .iload_n 2), (44, .aaload), (45, .getfield 212), (48, .iconst 1), (49, .if_icmp .ne 5), (52, .iload_n 3), (53, .ireturn), (54, .iinc 3 1), (57, .goto (-35)), (60, .iconst (-1)), (61, .ireturn)]
def am_c93 : List (Nat × Instr) := [(0, .aload_n 0), (1, .getfield 12), (4, .iload_n 1), (5, .invokevirtual 241), (8, .ifCond .ne 11), (11, .new 174), (14, .dup), (15, .invokespecial 176), (18, .athrow), (19, .aload_n 0), (20, .getfield 12), (23, .getfield 234), (26, .iload_n 1), (27, .aaload), (28, .areturn)]
def am_c94 : List (Nat × Instr) := [(0, .iconst (-1)), (1, .istore_n 2), (2, .iconst 0), (3, .istore_n 3), (4, .iload_n 3), (5, .aload_n 0), (6, .getfield 12), (9, .getfield 244), (12, .if_icmp .ge 43), (15, .iload_n 2), (16, .iconst (-1)), (17, .if_icmp .ne 38), (20, .aload_n 0), (21, .getfield 12), (24, .getfield 234), (27, .iload_n 3), (28, .aaload), (29, .getfield 212), (32, .ifCond .ne 17), (35, .aload_n 0), (36, .getfield 12), (39, .iload_n 3), (40, .invokevirtual 247), (43, .iload_n 1), (44, .if_icmp .ne 5), (47, .iload_n 3), (48, .istore_n 2), (49, .iinc 3 1), (52, .goto (-48)), (55, .iload_n 2), (56, .iconst (-1)), (57, .if_icmp .ne 11), (60, .new 184), (63, .dup), (64, .invokespecial 186), (67, .athrow), (68, .iload_n 2), (69, .ireturn)]
def am_c95 : List (Nat × Instr) := [(0, .iconst 0), (1, .istore_n 1), (2, .iconst 0), (3, .istore_n 2), (4, .iload_n 2), (5, .aload_n 0), (6, .getfield 12), (9, .getfield 161), (12, .if_icmp .ge 24), (15, .iload_n 1), (16, .aload_n 0), (17, .getfield 12), (20, .getfield 167), (23, .iload_n 2), (24, .aaload), (25, .getfield 111), (28, .iadd), (29, .istore_n 1), (30, .iinc 2 1), (33, .goto (-29)), (36, .iload_n 1), (37, .ireturn)]
def am_c96 : List (Nat × Instr) := [(0, .iconst 0), (1, .istore_n 1), (2, .iconst 0), (3, .istore_n 2), (4, .iload_n 2), (5, .aload_n 0), (6, .getfield 12), (9, .getfield 244), (12, .if_icmp .ge 24), (15, .iload_n 1), (16, .aload_n 0), (17, .getfield 12), (20, .getfield 234), (23, .iload_n 2), (24, .aaload), (25, .invokevirtual 205), (28, .iadd), (29, .istore_n 1), (30, .iinc 2 1), (33, .goto (-29)), (36, .iload_n 1), (37, .ireturn)]
def am_c97 : List (Nat × Instr) := [(0, .aload_n 0), (1, .getfield 12), (4, .getfield 244), (7, .ifCond .ne 11), (10, .new 164), (13, .dup), (14, .invokespecial 166), (17, .athrow), (18, .iconst 0), (19, .istore_n 1), (20, .iconst 0), (21, .istore_n 2), (22, .iload_n 2), (23, .aload_n 0), (24, .getfield 12), (27, .getfield 244), (30, .if_icmp .ge 24), (33, .iload_n 1), (34, .aload_n 0), (35, .getfield 12), (38, .getfield 234), (41, .iload_n 2), (42, .aaload), (43, .getfield 202), (46, .iadd), (47, .istore_n 1), (48, .iinc 2 1), (51, .goto (-29)), (54, .aload_n 0), (55, .invokevirtual 251), (58, .i2d), (59, .iload_n 1), (60, .i2d), (61, .ddiv), (62, .dreturn)]
def am_c98 : List (Nat × Instr) := [(0, .aload_n 0), (1, .getfield 46), (4, .getfield 254), (7, .bipush 60), (9, .if_icmp .lt 11), (12, .new 255), (15, .dup), (16, .invokespecial 257), (19, .athrow), (20, .aload_n 0), (21, .getfield 46), (24, .iload_n 1), (25, .invokevirtual 258), (28, .aload_n 0), (29, .getfield 46), (32, .getfield 254), (35, .ireturn)]
def am_c99 : List (Nat × Instr) := [(0, .aload_n 0), (1, .aload_n 0), (2, .getfield 46), (5, .invokevirtual 262), (8, .putfield 50), (11, .aload_n 0), (12, .getfield 46), (15, .iconst 0), (16, .putfield 254), (19, .aload_n 0), (20, .getfield 50), (23, .iconst (-1)), (24, .if_icmp .eq 11), (27, .new 121), (30, .dup), (31, .invokespecial 123), (34, .athrow), (35, .aload_n 0), (36, .getfield 25), (39, .invokevirtual 66), (42, .aload_n 0), (43, .getfield 12), (46, .invokevirtual 70), (49, .iconst 0), (50, .istore_n 1), (51, .iload_n 1), (52, .aload_n 0), (53, .getfield 46), (56, .getfield 265), (59, .if_icmp .ge 63), (62, .aload_n 0), (63, .getfield 12), (66, .aload_n 0), (67, .getfield 46), (70, .getfield 268), (73, .iload_n 1), (74, .aaload), (75, .aload_n 0), (76, .getfield 32), (79, .invokevirtual 74), (82, .iconst (-1)), (83, .if_icmp .ne 33), (86, .aload_n 0), (87, .getfield 32), (90, .iload_n 1), (91, .putfield 78), (94, .aload_n 0), (95, .getfield 12), (98, .aload_n 0), (99, .getfield 25), (102, .invokevirtual 66), (105, .invokevirtual 70), (108, .new 81), (111, .dup), (112, .invokespecial 83), (115, .athrow), (116, .iinc 1 1), (119, .goto (-68)), (122, .aload_n 0), (123, .getfield 25), (126, .invokevirtual 84), (129, .aload_n 0), (130, .getfield 46), (133, .getfield 265), (136, .ireturn)]
def am_c100 : List (Nat × Instr) := [(0, .aload_n 0), (1, .getfield 50), (4, .ireturn)]
def am_c101 : List (Nat × Instr) := [(0, .iload_n 1), (1, .ifCond .lt 8), (4, .iload_n 1), (5, .iconst 2), (6, .if_icmp .le 11), (9, .new 121), (12, .dup), (13, .invokespecial 123), (16, .athrow), (17, .aload_n 0), (18, .getfield 32), (21, .getfield 272), (24, .ifCond .ne 11), (27, .new 184), (30, .dup), (31, .invokespecial 186), (34, .athrow), (35, .iload_n 1), (36, .lookupswitch 44 #[(0, 28), (1, 36)]), (64, .aload_n 0), (65, .getfield 32), (68, .getfield 272), (71, .ireturn), (72, .aload_n 0), (73, .getfield 32), (76, .getfield 275), (79, .ireturn), (80, .aload_n 0), (81, .getfield 32), (84, .getfield 78), (87, .ireturn)]
def am_c102 : List (Nat × Instr) := [(0, .aload_n 0), (1, .iload_n 1), (2, .invokevirtual 187), (5, .astore_n 2), (6, .aload_n 0), (7, .iconst 0), (8, .putfield 278), (11, .aload_n 0), (12, .aload_n 2), (13, .getfield 191), (16, .invokevirtual 281), (19, .aload_n 0), (20, .bipush 62), (22, .invokevirtual 285), (25, .aload_n 0), (26, .aload_n 2), (27, .getfield 196), (30, .invokevirtual 281), (33, .aload_n 0), (34, .bipush 58), (36, .invokevirtual 285), (39, .iconst 0), (40, .istore_n 3), (41, .iload_n 3), (42, .aload_n 2), (43, .getfield 202), (46, .if_icmp .ge 37), (49, .aload_n 2), (50, .getfield 218), (53, .iload_n 3), (54, .iaload), (55, .ifCond .ne 12), (58, .aload_n 0), (59, .bipush 63), (61, .invokevirtual 285), (64, .goto 13), (67, .aload_n 0), (68, .aload_n 2), (69, .getfield 218), (72, .iload_n 3), (73, .iaload), (74, .invokevirtual 281), (77, .iinc 3 1), (80, .goto (-39)), (83, .aload_n 2), (84, .getfield 212), (87, .ifCond .ne 20), (90, .aload_n 0), (91, .bipush 64), (93, .invokevirtual 285), (96, .aload_n 0), (97, .aload_n 2), (98, .getfield 199), (101, .invokevirtual 281), (104, .goto 17), (107, .aload_n 2), (108, .getfield 212), (111, .iconst 2), (112, .if_icmp .ne 9), (115, .aload_n 0), (116, .bipush 120), (118, .invokevirtual 285), (121, .aload_n 0), (122, .getfield 278), (125, .ireturn)]
def am_c103 : List (Nat × Instr) := [(0, .aload_n 0), (1, .bipush 48), (3, .iload_n 1), (4, .iadd), (5, .i2c), (6, .invokevirtual 285), (9, .return_)]
def am_c104 : List (Nat × Instr) := [(0, .aload_n 0), (1, .getfield 278), (4, .bipush 14), (6, .if_icmp .ge 23), (9, .aload_n 0), (10, .getfield 54), (13, .aload_n 0), (14, .getfield 278), (17, .iload_n 1), (18, .castore), (19, .aload_n 0), (20, .dup), (21, .getfield 278), (24, .iconst 1), (25, .iadd), (26, .putfield 278), (29, .return_)]
def am_c105 : List (Nat × Instr) := [(0, .iload_n 1), (1, .ifCond .lt 11), (4, .iload_n 1), (5, .aload_n 0), (6, .getfield 278), (9, .if_icmp .lt 11), (12, .new 174), (15, .dup), (16, .invokespecial 176), (19, .athrow), (20, .aload_n 0), (21, .getfield 54), (24, .iload_n 1), (25, .caload), (26, .ireturn)]
def am_c106 : List (Nat × Instr) := [(0, .iload_n 1), (1, .tableswitch 162 0 11 #[63, 71, 79, 87, 95, 103, 112, 121, 130, 138, 146, 154]), (64, .aload_n 0), (65, .getfield 12), (68, .getfield 155), (71, .ireturn), (72, .aload_n 0), (73, .getfield 12), (76, .invokevirtual 114), (79, .ireturn), (80, .aload_n 0), (81, .getfield 12), (84, .getfield 161), (87, .ireturn), (88, .aload_n 0), (89, .getfield 12), (92, .invokevirtual 288), (95, .ireturn), (96, .aload_n 0), (97, .getfield 12), (100, .getfield 244), (103, .ireturn), (104, .aload_n 0), (105, .getfield 12), (108, .iconst 0), (109, .invokevirtual 291), (112, .ireturn), (113, .aload_n 0), (114, .getfield 12), (117, .iconst 1), (118, .invokevirtual 291), (121, .ireturn), (122, .aload_n 0), (123, .getfield 12), (126, .iconst 2), (127, .invokevirtual 291), (130, .ireturn), (131, .aload_n 0), (132, .getfield 12), (135, .invokevirtual 294), (138, .ireturn), (139, .aload_n 0), (140, .getfield 12), (143, .invokevirtual 297), (146, .ireturn), (147, .aload_n 0), (148, .getfield 25), (151, .getfield 300), (154, .ireturn), (155, .aload_n 0), (156, .getfield 46), (159, .getfield 254), (162, .ireturn), (163, .new 121), (166, .dup), (167, .invokespecial 123), (170, .athrow)]
def am_c107 : List (Nat × Instr) := [(0, .aload_n 0), (1, .getfield 25), (4, .getfield 300), (7, .ifCond .ne 11), (10, .new 255), (13, .dup), (14, .invokespecial 257), (17, .athrow), (18, .aload_n 0), (19, .getfield 12), (22, .aload_n 0), (23, .getfield 25), (26, .invokevirtual 303), (29, .invokevirtual 70), (32, .aload_n 0), (33, .getfield 25), (36, .getfield 300), (39, .ireturn)]
def am_c108 : List (Nat × Instr) := [(0, .aload_n 0), (1, .getfield 19), (4, .aload_n 0), (5, .getfield 12), (8, .invokevirtual 70), (11, .aload_n 0), (12, .iconst 1), (13, .putfield 306), (16, .aload_n 0), (17, .getfield 12), (20, .getfield 155), (23, .ireturn)]
def am_c109 : List (Nat × Instr) := [(0, .aload_n 0), (1, .getfield 306), (4, .ifCond .ne 11), (7, .new 255), (10, .dup), (11, .invokespecial 257), (14, .athrow), (15, .aload_n 0), (16, .getfield 12), (19, .aload_n 0), (20, .getfield 19), (23, .invokevirtual 70), (26, .aload_n 0), (27, .getfield 25), (30, .iconst 0), (31, .putfield 300), (34, .aload_n 0), (35, .getfield 12), (38, .getfield 155), (41, .ireturn)]
def am_c110 : List (Nat × Instr) := [(0, .iload_n 0), (1, .ifCond .lt 13), (4, .iload_n 0), (5, .bipush 9), (7, .if_icmp .gt 7), (10, .iconst 1), (11, .goto 4), (14, .iconst 0), (15, .ireturn)]
def am_c111 : List (Nat × Instr) := [(0, .iload_n 0), (1, .ifCond .lt 13), (4, .iload_n 0), (5, .bipush 24), (7, .if_icmp .ge 7), (10, .iconst 1), (11, .goto 4), (14, .iconst 0), (15, .ireturn)]
def am_c112 : List (Nat × Instr) := [(0, .iconst 3), (1, .iload_n 0), (2, .imul), (3, .iload_n 1), (4, .iadd), (5, .iconst 1), (6, .iadd), (7, .bipush 10), (9, .irem), (10, .ireturn)]
def am_c113 : List (Nat × Instr) := [(0, .iload_n 1), (1, .aload_n 0), (2, .arraylength), (3, .if_icmp .ge 9), (6, .aload_n 0), (7, .iload_n 1), (8, .iaload), (9, .goto 4), (12, .iconst 0), (13, .ireturn)]
def am_c114 : List (Nat × Instr) := [(0, .iload_n 0), (1, .iload_n 1), (2, .irem), (3, .istore_n 2), (4, .iload_n 2), (5, .ifCond .ge 9), (8, .iload_n 2), (9, .iload_n 1), (10, .iadd), (11, .goto 4), (14, .iload_n 2), (15, .ireturn)]
def am_c115 : List (Nat × Instr) := [(0, .aload_n 0), (1, .iload_n 1), (2, .iload_n 2), (3, .iload_n 3), (4, .invokevirtual 7), (7, .ireturn), (8, .astore 4), (10, .sipush (-1001)), (13, .ireturn)]
def am_c116 : List (Nat × Instr) := [(0, .aload_n 0), (1, .iload_n 1), (2, .iload_n 2), (3, .invokevirtual 15), (6, .ireturn), (7, .astore_n 3), (8, .sipush (-1001)), (11, .ireturn)]
def am_c117 : List (Nat × Instr) := [(0, .aload_n 0), (1, .iload_n 1), (2, .iload_n 2), (3, .iload_n 3), (4, .invokevirtual 19), (7, .ireturn), (8, .astore 4), (10, .sipush (-1001)), (13, .ireturn)]
def am_c118 : List (Nat × Instr) := [(0, .aload_n 0), (1, .iload_n 1), (2, .iload_n 2), (3, .invokevirtual 22), (6, .ireturn), (7, .astore_n 3), (8, .sipush (-1001)), (11, .ireturn)]
def am_c119 : List (Nat × Instr) := [(0, .aload_n 0), (1, .iload_n 1), (2, .iload_n 2), (3, .invokevirtual 25), (6, .ireturn), (7, .astore_n 3), (8, .sipush (-1001)), (11, .ireturn)]
def am_c120 : List (Nat × Instr) := [(0, .aload_n 0), (1, .iload_n 1), (2, .iload_n 2), (3, .iload_n 3), (4, .invokevirtual 28), (7, .ireturn), (8, .astore 4), (10, .sipush (-1001)), (13, .ireturn)]
def am_c121 : List (Nat × Instr) := [(0, .aload_n 0), (1, .iload_n 1), (2, .invokevirtual 31), (5, .ireturn), (6, .astore_n 2), (7, .sipush (-1001)), (10, .ireturn)]
def am_c122 : List (Nat × Instr) := [(0, .aload_n 0), (1, .iload_n 1), (2, .invokevirtual 35), (5, .ireturn), (6, .astore_n 2), (7, .sipush (-1001)), (10, .ireturn)]
def am_c123 : List (Nat × Instr) := [(0, .aload_n 0), (1, .iload_n 1), (2, .iload_n 2), (3, .invokevirtual 38), (6, .ireturn), (7, .astore_n 3), (8, .sipush (-1001)), (11, .ireturn), (12, .astore_n 3), (13, .sipush (-1002)), (16, .ireturn)]
def am_c124 : List (Nat × Instr) := [(0, .aload_n 0), (1, .iload_n 1), (2, .iload_n 2), (3, .invokevirtual 45), (6, .ireturn), (7, .astore_n 3), (8, .sipush (-1001)), (11, .ireturn), (12, .astore_n 3), (13, .sipush (-1002)), (16, .ireturn)]
def am_c125 : List (Nat × Instr) := [(0, .aload_n 0), (1, .iload_n 1), (2, .invokevirtual 48), (5, .ireturn), (6, .astore_n 2), (7, .sipush (-1001)), (10, .ireturn)]
def am_c126 : List (Nat × Instr) := [(0, .aload_n 0), (1, .iload_n 1), (2, .iload_n 2), (3, .invokevirtual 51), (6, .ireturn), (7, .astore_n 3), (8, .sipush (-1001)), (11, .ireturn), (12, .astore_n 3), (13, .sipush (-1002)), (16, .ireturn)]
def am_c127 : List (Nat × Instr) := [(0, .aload_n 0), (1, .iload_n 1), (2, .iload_n 2), (3, .invokevirtual 54), (6, .ireturn), (7, .astore_n 3), (8, .sipush (-1001)), (11, .ireturn)]
def am_c128 : List (Nat × Instr) := [(0, .aload_n 0), (1, .iload_n 1), (2, .invokevirtual 57), (5, .ireturn), (6, .astore_n 2), (7, .sipush (-1001)), (10, .ireturn)]
def am_c129 : List (Nat × Instr) := [(0, .aload_n 0), (1, .iload_n 1), (2, .iload_n 2), (3, .invokevirtual 60), (6, .ireturn), (7, .astore_n 3), (8, .sipush (-1001)), (11, .ireturn), (12, .astore_n 3), (13, .sipush (-1002)), (16, .ireturn)]
def am_c130 : List (Nat × Instr) := [(0, .aload_n 0), (1, .iload_n 1), (2, .invokevirtual 65), (5, .ireturn), (6, .astore_n 2), (7, .sipush (-1001)), (10, .ireturn)]
def am_c131 : List (Nat × Instr) := [(0, .aload_n 0), (1, .iload_n 1), (2, .iload_n 2), (3, .invokevirtual 68), (6, .ireturn), (7, .astore_n 3), (8, .sipush (-1001)), (11, .ireturn), (12, .astore_n 3), (13, .sipush (-1002)), (16, .ireturn)]
def am_c132 : List (Nat × Instr) := [(0, .aload_n 0), (1, .iload_n 1), (2, .iload_n 2), (3, .invokevirtual 72), (6, .ireturn), (7, .astore_n 3), (8, .sipush (-1001)), (11, .ireturn), (12, .astore_n 3), (13, .sipush (-1002)), (16, .ireturn)]
def am_c133 : List (Nat × Instr) := [(0, .aload_n 0), (1, .iload_n 1), (2, .invokevirtual 75), (5, .ireturn), (6, .astore_n 2), (7, .sipush (-1001)), (10, .ireturn), (11, .astore_n 2), (12, .sipush (-1002)), (15, .ireturn)]
def am_c134 : List (Nat × Instr) := [(0, .aload_n 0), (1, .iload_n 1), (2, .invokevirtual 78), (5, .ireturn), (6, .astore_n 2), (7, .sipush (-1001)), (10, .ireturn), (11, .astore_n 2), (12, .sipush (-1002)), (15, .ireturn)]
def am_c135 : List (Nat × Instr) := [(0, .aload_n 0), (1, .iload_n 1), (2, .invokevirtual 81), (5, .ireturn), (6, .astore_n 2), (7, .sipush (-1001)), (10, .ireturn)]
def am_c136 : List (Nat × Instr) := [(0, .aload_n 0), (1, .iload_n 1), (2, .invokevirtual 84), (5, .ireturn), (6, .astore_n 2), (7, .sipush (-1001)), (10, .ireturn)]
def am_c137 : List (Nat × Instr) := [(0, .aload_n 0), (1, .invokevirtual 90), (4, .ireturn), (5, .astore_n 1), (6, .sipush (-1001)), (9, .ireturn), (10, .astore_n 1), (11, .sipush (-1002)), (14, .ireturn)]
def am_c138 : List (Nat × Instr) := [(0, .aload_n 0), (1, .iload_n 1), (2, .invokevirtual 94), (5, .ireturn), (6, .astore_n 2), (7, .sipush (-1001)), (10, .ireturn), (11, .astore_n 2), (12, .sipush (-1002)), (15, .ireturn)]
def am_c139 : List (Nat × Instr) := [(0, .aload_n 0), (1, .iload_n 1), (2, .invokevirtual 97), (5, .ireturn), (6, .astore_n 2), (7, .sipush (-1001)), (10, .ireturn)]
def am_c140 : List (Nat × Instr) := [(0, .aload_n 0), (1, .iload_n 1), (2, .invokevirtual 100), (5, .ireturn), (6, .astore_n 2), (7, .sipush (-1001)), (10, .ireturn)]
def am_c141 : List (Nat × Instr) := [(0, .aload_n 0), (1, .invokevirtual 104), (4, .freturn), (5, .astore_n 1), (6, .ldc 110), (8, .freturn)]
def am_c142 : List (Nat × Instr) := [(0, .aload_n 0), (1, .invokevirtual 111), (4, .dreturn), (5, .astore_n 1), (6, .ldc2_w 115), (9, .dreturn)]
def am_c143 : List (Nat × Instr) := [(0, .aload_n 0), (1, .iload_n 1), (2, .invokevirtual 117), (5, .ireturn), (6, .astore_n 2), (7, .sipush (-1001)), (10, .ireturn)]
def am_c144 : List (Nat × Instr) := [(0, .aload_n 0), (1, .invokevirtual 120), (4, .ireturn), (5, .astore_n 1), (6, .sipush (-1001)), (9, .ireturn)]
def am_c145 : List (Nat × Instr) := [(0, .aload_n 0), (1, .invokevirtual 123), (4, .ireturn), (5, .astore_n 1), (6, .sipush (-1001)), (9, .ireturn)]
def am_c146 : List (Nat × Instr) := [(0, .aload_n 0), (1, .iload_n 1), (2, .iload_n 2), (3, .invokevirtual 126), (6, .ifCond .eq 7), (9, .iconst 1), (10, .goto 4), (13, .iconst 0), (14, .ireturn), (15, .astore_n 3), (16, .sipush (-1001)), (19, .ireturn), (20, .astore_n 3), (21, .sipush (-1002)), (24, .ireturn)]
def am_c147 : List (Nat × Instr) := [(0, .iconst 0), (1, .istore_n 2), (2, .iload_n 2), (3, .aload_n 1), (4, .invokevirtual 130), (7, .if_icmp .ge 27), (10, .aload_n 0), (11, .aload_n 1), (12, .iload_n 2), (13, .invokevirtual 135), (16, .invokestatic 138), (19, .iload_n 2), (20, .iconst 1), (21, .iadd), (22, .if_icmp .eq 6), (25, .bipush (-99)), (27, .ireturn), (28, .iinc 2 1), (31, .goto (-29)), (34, .aload_n 0), (35, .invokestatic 143), (38, .ireturn)]
def am_c148 : List (Nat × Instr) := [(0, .aload_n 0), (1, .iconst 0), (2, .invokestatic 146), (5, .iload_n 1), (6, .if_icmp .ne 25), (9, .aload_n 0), (10, .iconst 1), (11, .invokestatic 146), (14, .iload_n 2), (15, .if_icmp .ne 16), (18, .aload_n 0), (19, .iconst 2), (20, .invokestatic 146), (23, .iload_n 3), (24, .if_icmp .ne 7), (27, .iconst 1), (28, .goto 4), (31, .iconst 0), (32, .ireturn)]
def am_c149 : List (Nat × Instr) := [(0, .aload_n 0), (1, .iload_n 1), (2, .invokestatic 149), (5, .aload_n 2), (6, .invokevirtual 130), (9, .if_icmp .eq 5), (12, .iconst 0), (13, .ireturn), (14, .iconst 0), (15, .istore_n 3), (16, .iload_n 3), (17, .aload_n 2), (18, .invokevirtual 130), (21, .if_icmp .ge 24), (24, .aload_n 0), (25, .iload_n 3), (26, .invokestatic 151), (29, .aload_n 2), (30, .iload_n 3), (31, .invokevirtual 135), (34, .if_icmp .eq 5), (37, .iconst 0), (38, .ireturn), (39, .iinc 3 1), (42, .goto (-26)), (45, .aload_n 0), (46, .aload_n 2), (47, .invokevirtual 130), (50, .invokestatic 151), (53, .sipush (-1001)), (56, .if_icmp .ne 7), (59, .iconst 1), (60, .goto 4), (63, .iconst 0), (64, .ireturn)]
def am_c150_0 : List (Nat × Instr) := [(0, .iconst 0), (1, .istore_n 2), (2, .iload_n 2), (3, .iconst 5), (4, .if_icmp .ge 56), (7, .aload_n 0), (8, .aload_n 1), (9, .iload_n 2), (10, .invokestatic 153), (13, .bipush 10), (15, .invokestatic 157), (18, .aload_n 1), (19, .iload_n 2), (20, .invokestatic 153), (23, .iconst 5), (24, .ishr), (25, .bipush 10), (27, .invokestatic 157), (30, .iconst 1), (31, .aload_n 1), (32, .iload_n 2), (33, .invokestatic 153), (36, .bipush 8), (38, .ishr), (39, .bipush 6), (41, .invokestatic 157), (44, .iadd), (45, .invokestatic 160), (48, .iload_n 2), (49, .if_icmp .eq 5), (52, .iconst 0), (53, .ireturn), (54, .iinc 2 1), (57, .goto (-55)), (60, .iconst 1), (61, .istore_n 2), (62, .iload_n 2), (63, .bipush 9), (65, .if_icmp .ge 36), (68, .aload_n 0)]
def am_c150_1 : List (Nat × Instr) := [(69, .iload_n 2), (70, .bipush 18), (72, .iload_n 2), (73, .imul), (74, .aload_n 1), (75, .iconst 5), (76, .iload_n 2), (77, .iadd), (78, .invokestatic 153), (81, .bipush 18), (83, .invokestatic 157), (86, .isub), (87, .invokestatic 163), (90, .ifCond .eq 5), (93, .iconst 0), (94, .ireturn), (95, .iinc 2 1), (98, .goto (-36)), (101, .iconst 0), (102, .istore_n 2), (103, .iload_n 2), (104, .iconst 4), (105, .if_icmp .ge 32), (108, .aload_n 0), (109, .iload_n 2), (110, .aload_n 1), (111, .bipush 14), (113, .iload_n 2), (114, .iadd), (115, .invokestatic 153), (118, .bipush 10), (120, .invokestatic 157), (123, .invokestatic 166), (126, .ifCond .eq 5), (129, .iconst 0), (130, .ireturn), (131, .iinc 2 1), (134, .goto (-31)), (137, .aload_n 1), (138, .bipush 18)]
def am_c150_2 : List (Nat × Instr) := [(140, .invokestatic 153), (143, .bipush 24), (145, .invokestatic 157), (148, .istore_n 2), (149, .aload_n 0), (150, .iconst 2), (151, .iload_n 2), (152, .iload_n 2), (153, .aload_n 1), (154, .bipush 19), (156, .invokestatic 153), (159, .bipush 9), (161, .invokestatic 157), (164, .iadd), (165, .bipush 24), (167, .irem), (168, .invokestatic 168), (171, .ifCond .lt 7), (174, .iconst 1), (175, .goto 4), (178, .iconst 0), (179, .ireturn)]
def am_c150 : List (Nat × Instr) := am_c150_0 ++ (am_c150_1 ++ (am_c150_2))
def am_c151 : List (Nat × Instr) := [(0, .iconst 1), (1, .iload_n 0), (2, .bipush 8), (4, .invokestatic 157), (7, .iadd), (8, .istore_n 1), (9, .iload_n 0), (10, .iconst 3), (11, .ishr), (12, .bipush 8), (14, .invokestatic 157), (17, .istore_n 2), (18, .iload_n 2), (19, .ifCond .le 30), (22, .bipush 10), (24, .iload_n 1), (25, .imul), (26, .iconst 1), (27, .iadd), (28, .iload_n 0), (29, .iload_n 2), (30, .ishr), (31, .iload_n 2), (32, .bipush 37), (34, .imul), (35, .ixor), (36, .bipush 8), (38, .invokestatic 157), (41, .iadd), (42, .istore_n 1), (43, .iinc 2 (-1)), (46, .goto (-28)), (49, .iload_n 1), (50, .ireturn)]
def am_c152_0 : List (Nat × Instr) := [(0, .ldc2_w 170), (3, .aload_n 0), (4, .invokestatic 172), (7, .invokestatic 175), (10, .lmul), (11, .aload_n 0), (12, .invokestatic 181), (15, .invokestatic 184), (18, .i2l), (19, .ladd), (20, .lstore_n 1), (21, .iconst 0), (22, .istore_n 3), (23, .iload_n 3), (24, .bipush 10), (26, .if_icmp .ge 22), (29, .ldc2_w 170), (32, .lload_n 1), (33, .lmul), (34, .aload_n 0), (35, .iload_n 3), (36, .invokestatic 190), (39, .i2l), (40, .ladd), (41, .lstore_n 1), (42, .iinc 3 1), (45, .goto (-22)), (48, .iconst 0), (49, .istore_n 3), (50, .iload_n 3), (51, .aload_n 0), (52, .iconst 2), (53, .invokestatic 190), (56, .if_icmp .ge 164), (59, .iconst 0), (60, .istore 4), (62, .iload 4), (64, .bipush 8), (66, .if_icmp .ge 24), (69, .ldc2_w 170)]
def am_c152_1 : List (Nat × Instr) := [(72, .lload_n 1), (73, .lmul), (74, .aload_n 0), (75, .iload_n 3), (76, .iload 4), (78, .invokestatic 192), (81, .i2l), (82, .ladd), (83, .lstore_n 1), (84, .iinc 4 1), (87, .goto (-25)), (90, .iconst 0), (91, .istore 4), (93, .iload 4), (95, .aload_n 0), (96, .iload_n 3), (97, .iconst 4), (98, .invokestatic 192), (101, .if_icmp .gt 24), (104, .ldc2_w 170), (107, .lload_n 1), (108, .lmul), (109, .aload_n 0), (110, .iload_n 3), (111, .iload 4), (113, .invokestatic 194), (116, .i2l), (117, .ladd), (118, .lstore_n 1), (119, .iinc 4 1), (122, .goto (-29)), (125, .ldc2_w 170), (128, .ldc2_w 170), (131, .ldc2_w 170), (134, .ldc2_w 170), (137, .lload_n 1), (138, .lmul), (139, .aload_n 0), (140, .iload_n 3), (141, .iconst 1)]
def am_c152_2 : List (Nat × Instr) := [(142, .invokestatic 196), (145, .i2l), (146, .ladd), (147, .lmul), (148, .aload_n 0), (149, .iload_n 3), (150, .iconst 0), (151, .invokestatic 196), (154, .i2l), (155, .ladd), (156, .lmul), (157, .aload_n 0), (158, .iload_n 3), (159, .iconst 1), (160, .invokestatic 199), (163, .i2l), (164, .ladd), (165, .lmul), (166, .aload_n 0), (167, .iload_n 3), (168, .iconst 0), (169, .invokestatic 199), (172, .i2l), (173, .ladd), (174, .lstore_n 1), (175, .ldc2_w 170), (178, .ldc2_w 170), (181, .ldc2_w 170), (184, .lload_n 1), (185, .lmul), (186, .aload_n 0), (187, .iload_n 3), (188, .iconst 0), (189, .invokestatic 201), (192, .i2l), (193, .ladd), (194, .lmul), (195, .aload_n 0), (196, .iload_n 3), (197, .iconst 1)]
def am_c152_3 : List (Nat × Instr) := [(198, .invokestatic 201), (201, .i2l), (202, .ladd), (203, .lmul), (204, .aload_n 0), (205, .iload_n 3), (206, .bipush 31), (208, .invokestatic 203), (211, .i2l), (212, .ladd), (213, .lstore_n 1), (214, .iinc 3 1), (217, .goto (-167)), (220, .iconst 1), (221, .istore_n 3), (222, .iload_n 3), (223, .bipush 9), (225, .if_icmp .ge 22), (228, .ldc2_w 170), (231, .lload_n 1), (232, .lmul), (233, .aload_n 0), (234, .iload_n 3), (235, .invokestatic 205), (238, .i2l), (239, .ladd), (240, .lstore_n 1), (241, .iinc 3 1), (244, .goto (-22)), (247, .iconst 0), (248, .istore_n 3), (249, .iload_n 3), (250, .aload_n 0), (251, .iconst 4), (252, .invokestatic 190), (255, .if_icmp .ge 143), (258, .iconst 0), (259, .istore 4), (261, .iload 4), (263, .bipush 9)]
def am_c152_4 : List (Nat × Instr) := [(265, .if_icmp .ge 24), (268, .ldc2_w 170), (271, .lload_n 1), (272, .lmul), (273, .aload_n 0), (274, .iload_n 3), (275, .iload 4), (277, .invokestatic 207), (280, .i2l), (281, .ladd), (282, .lstore_n 1), (283, .iinc 4 1), (286, .goto (-25)), (289, .iconst 0), (290, .istore 4), (292, .iload 4), (294, .bipush 8), (296, .if_icmp .ge 24), (299, .ldc2_w 170), (302, .lload_n 1), (303, .lmul), (304, .aload_n 0), (305, .iload_n 3), (306, .iload 4), (308, .invokestatic 209), (311, .i2l), (312, .ladd), (313, .lstore_n 1), (314, .iinc 4 1), (317, .goto (-25)), (320, .ldc2_w 170), (323, .ldc2_w 170), (326, .ldc2_w 170), (329, .lload_n 1), (330, .lmul), (331, .aload_n 0), (332, .iload_n 3), (333, .invokestatic 211), (336, .i2l), (337, .ladd)]
def am_c152_5 : List (Nat × Instr) := [(338, .lmul), (339, .aload_n 0), (340, .iload_n 3), (341, .invokestatic 213), (344, .i2l), (345, .ladd), (346, .lmul), (347, .aload_n 0), (348, .iload_n 3), (349, .invokestatic 215), (352, .i2l), (353, .ladd), (354, .lstore_n 1), (355, .aload_n 0), (356, .iload_n 3), (357, .invokestatic 149), (360, .istore 4), (362, .iconst 0), (363, .istore 5), (365, .iload 5), (367, .iload 4), (369, .if_icmp .ge 23), (372, .ldc2_w 170), (375, .lload_n 1), (376, .lmul), (377, .aload_n 0), (378, .iload 5), (380, .invokestatic 151), (383, .i2l), (384, .ladd), (385, .lstore_n 1), (386, .iinc 5 1), (389, .goto (-24)), (392, .iinc 3 1), (395, .goto (-146)), (398, .aload_n 0), (399, .iconst 4), (400, .invokestatic 190), (403, .istore_n 3), (404, .iload_n 3)]
def am_c152_6 : List (Nat × Instr) := [(405, .ifCond .le 31), (408, .ldc2_w 170), (411, .ldc2_w 170), (414, .lload_n 1), (415, .lmul), (416, .aload_n 0), (417, .iload_n 3), (418, .iconst 1), (419, .isub), (420, .invokestatic 217), (423, .i2l), (424, .ladd), (425, .lmul), (426, .aload_n 0), (427, .iload_n 3), (428, .iconst 1), (429, .isub), (430, .invokestatic 219), (433, .i2l), (434, .ladd), (435, .lstore_n 1), (436, .ldc2_w 170), (439, .ldc2_w 170), (442, .lload_n 1), (443, .lmul), (444, .aload_n 0), (445, .invokevirtual 221), (448, .i2l), (449, .ladd), (450, .lmul), (451, .aload_n 0), (452, .invokevirtual 224), (455, .i2l), (456, .ladd), (457, .lreturn)]
def am_c152 : List (Nat × Instr) := am_c152_0 ++ (am_c152_1 ++ (am_c152_2 ++ (am_c152_3 ++ (am_c152_4 ++ (am_c152_5 ++ (am_c152_6))))))
def am_c153_0 : List (Nat × Instr) := [(0, .iload_n 1), (1, .iconst 4), (2, .ishr), (3, .aload_n 0), (4, .iconst 2), (5, .invokestatic 190), (8, .iconst 1), (9, .iadd), (10, .invokestatic 157), (13, .istore_n 2), (14, .iload_n 1), (15, .bipush 14), (17, .invokestatic 157), (20, .tableswitch 294 0 11 #[64, 105, 140, 172, 195, 218, 218, 218, 247, 273, 273, 273]), (84, .aload_n 0), (85, .iload_n 1), (86, .iconst 4), (87, .ishr), (88, .bipush 11), (90, .invokestatic 157), (93, .iload_n 1), (94, .bipush 6), (96, .ishr), (97, .bipush 11), (99, .invokestatic 157), (102, .iconst 1), (103, .iload_n 1), (104, .bipush 8), (106, .ishr), (107, .bipush 9), (109, .invokestatic 157), (112, .iadd), (113, .invokestatic 160), (116, .ifCond .lt 7), (119, .iconst 1), (120, .goto 4), (123, .iconst 0), (124, .ireturn), (125, .aload_n 0), (126, .iconst 1)]
def am_c153_1 : List (Nat × Instr) := [(127, .iload_n 1), (128, .iconst 4), (129, .ishr), (130, .bipush 9), (132, .invokestatic 157), (135, .iadd), (136, .iconst 1), (137, .iload_n 1), (138, .bipush 6), (140, .ishr), (141, .sipush 151), (144, .invokestatic 157), (147, .iadd), (148, .invokestatic 163), (151, .ifCond .lt 7), (154, .iconst 1), (155, .goto 4), (158, .iconst 0), (159, .ireturn), (160, .aload_n 0), (161, .iload_n 2), (162, .iload_n 1), (163, .bipush 6), (165, .ishr), (166, .bipush 25), (168, .invokestatic 157), (171, .iload_n 1), (172, .bipush 8), (174, .ishr), (175, .bipush 24), (177, .invokestatic 157), (180, .invokestatic 168), (183, .ifCond .lt 7), (186, .iconst 1), (187, .goto 4), (190, .iconst 0), (191, .ireturn), (192, .aload_n 0), (193, .iload_n 2), (194, .iload_n 1)]
def am_c153_2 : List (Nat × Instr) := [(195, .bipush 6), (197, .ishr), (198, .bipush 11), (200, .invokestatic 157), (203, .invokestatic 166), (206, .ifCond .lt 7), (209, .iconst 1), (210, .goto 4), (213, .iconst 0), (214, .ireturn), (215, .aload_n 0), (216, .iload_n 2), (217, .iload_n 1), (218, .bipush 6), (220, .ishr), (221, .bipush 11), (223, .invokestatic 157), (226, .invokestatic 227), (229, .ifCond .lt 7), (232, .iconst 1), (233, .goto 4), (236, .iconst 0), (237, .ireturn), (238, .aload_n 0), (239, .iload_n 2), (240, .iload_n 1), (241, .bipush 6), (243, .ishr), (244, .bipush 6), (246, .invokestatic 157), (249, .iload_n 1), (250, .iconst 5), (251, .ishr), (252, .invokestatic 229), (255, .invokestatic 232), (258, .ifCond .lt 7), (261, .iconst 1), (262, .goto 4), (265, .iconst 0), (266, .ireturn)]
def am_c153_3 : List (Nat × Instr) := [(267, .aload_n 0), (268, .iload_n 1), (269, .iconst 4), (270, .ishr), (271, .aload_n 0), (272, .iconst 4), (273, .invokestatic 190), (276, .iconst 1), (277, .iadd), (278, .invokestatic 157), (281, .invokestatic 234), (284, .ifCond .lt 7), (287, .iconst 1), (288, .goto 4), (291, .iconst 0), (292, .ireturn), (293, .aload_n 0), (294, .iload_n 1), (295, .iconst 4), (296, .ishr), (297, .bipush 30), (299, .invokestatic 157), (302, .invokestatic 236), (305, .ifCond .lt 7), (308, .iconst 1), (309, .goto 4), (312, .iconst 0), (313, .ireturn), (314, .aload_n 0), (315, .iload_n 1), (316, .bipush 6), (318, .ishr), (319, .iconst 1), (320, .iand), (321, .ifCond .ne 65), (324, .new 238), (327, .dup), (328, .invokespecial 240), (331, .ldc 241), (333, .invokevirtual 243)]
def am_c153_4 : List (Nat × Instr) := [(336, .iload_n 1), (337, .iconst 3), (338, .ishr), (339, .bipush 12), (341, .invokestatic 157), (344, .invokevirtual 246), (347, .ldc 249), (349, .invokevirtual 243), (352, .iload_n 1), (353, .iconst 5), (354, .ishr), (355, .bipush 7), (357, .invokestatic 157), (360, .invokevirtual 246), (363, .ldc 251), (365, .invokevirtual 243), (368, .iload_n 1), (369, .bipush 7), (371, .ishr), (372, .bipush 10), (374, .invokestatic 157), (377, .invokevirtual 246), (380, .invokevirtual 253), (383, .goto 63), (386, .new 238), (389, .dup), (390, .invokespecial 240), (393, .ldc_w 257), (396, .invokevirtual 243), (399, .iload_n 1), (400, .iconst 3), (401, .ishr), (402, .bipush 6), (404, .invokestatic 157), (407, .invokevirtual 246), (410, .ldc_w 259), (413, .invokevirtual 243), (416, .iload_n 1), (417, .iconst 5), (418, .ishr)]
def am_c153_5 : List (Nat × Instr) := [(419, .bipush 26), (421, .invokestatic 157), (424, .invokevirtual 246), (427, .ldc_w 261), (430, .invokevirtual 243), (433, .iload_n 1), (434, .iconst 4), (435, .ishr), (436, .iconst 4), (437, .invokestatic 157), (440, .invokevirtual 246), (443, .invokevirtual 253), (446, .invokestatic 263), (449, .ifCond .lt 7), (452, .iconst 1), (453, .goto 4), (456, .iconst 0), (457, .ireturn)]
def am_c153 : List (Nat × Instr) := am_c153_0 ++ (am_c153_1 ++ (am_c153_2 ++ (am_c153_3 ++ (am_c153_4 ++ (am_c153_5)))))
def am_c154_0 : List (Nat × Instr) := [(0, .aload_n 0), (1, .invokestatic 267), (4, .lstore_n 1), (5, .aload_n 0), (6, .iconst 2), (7, .invokestatic 190), (10, .istore_n 3), (11, .aload_n 0), (12, .iconst 4), (13, .invokestatic 190), (16, .istore 4), (18, .aload_n 0), (19, .iconst (-1)), (20, .iconst 0), (21, .iconst 1), (22, .invokestatic 160), (25, .sipush (-1001)), (28, .if_icmp .ne 353), (31, .aload_n 0), (32, .bipush 10), (34, .iconst 0), (35, .iconst 1), (36, .invokestatic 160), (39, .sipush (-1001)), (42, .if_icmp .ne 339), (45, .aload_n 0), (46, .iconst 0), (47, .bipush 10), (49, .iconst 1), (50, .invokestatic 160), (53, .sipush (-1001)), (56, .if_icmp .ne 325), (59, .aload_n 0), (60, .iconst 0), (61, .iconst 0), (62, .iconst 0), (63, .invokestatic 160), (66, .sipush (-1001)), (69, .if_icmp .ne 312), (72, .aload_n 0)]
def am_c154_1 : List (Nat × Instr) := [(73, .iconst 1), (74, .iconst 0), (75, .iconst 0), (76, .invokestatic 271), (79, .ifCond .eq 302), (82, .aload_n 0), (83, .iconst 0), (84, .iconst 1), (85, .invokestatic 163), (88, .sipush (-1001)), (91, .if_icmp .ne 290), (94, .aload_n 0), (95, .bipush 9), (97, .iconst 1), (98, .invokestatic 163), (101, .sipush (-1001)), (104, .if_icmp .ne 277), (107, .aload_n 0), (108, .iconst 1), (109, .iconst 0), (110, .invokestatic 163), (113, .sipush (-1001)), (116, .if_icmp .ne 265), (119, .aload_n 0), (120, .iconst 1), (121, .sipush 151), (124, .invokestatic 163), (127, .sipush (-1001)), (130, .if_icmp .ne 251), (133, .aload_n 0), (134, .iload_n 3), (135, .bipush 24), (137, .iconst 0), (138, .invokestatic 168), (141, .sipush (-1001)), (144, .if_icmp .ne 237), (147, .aload_n 0), (148, .iconst 3), (149, .iload_n 3), (150, .iconst 0)]
def am_c154_2 : List (Nat × Instr) := [(151, .invokestatic 271), (154, .ifCond .eq 227), (157, .aload_n 0), (158, .iconst 0), (159, .bipush 24), (161, .iconst 0), (162, .invokestatic 168), (165, .sipush (-1001)), (168, .if_icmp .ne 213), (171, .aload_n 0), (172, .iconst 0), (173, .iconst 0), (174, .iconst (-1)), (175, .invokestatic 168), (178, .sipush (-1001)), (181, .if_icmp .ne 200), (184, .aload_n 0), (185, .iload_n 3), (186, .iconst 1), (187, .isub), (188, .iconst 0), (189, .invokestatic 166), (192, .sipush (-1001)), (195, .if_icmp .ne 186), (198, .aload_n 0), (199, .iconst 3), (200, .iload_n 3), (201, .iconst 1), (202, .isub), (203, .iconst 0), (204, .invokestatic 271), (207, .ifCond .eq 174), (210, .aload_n 0), (211, .iconst 0), (212, .bipush 10), (214, .invokestatic 166), (217, .sipush (-1001)), (220, .if_icmp .ne 161), (223, .aload_n 0), (224, .iconst (-1))]
def am_c154_3 : List (Nat × Instr) := [(225, .iconst 0), (226, .invokestatic 166), (229, .sipush (-1001)), (232, .if_icmp .ne 149), (235, .aload_n 0), (236, .iload_n 3), (237, .bipush 10), (239, .invokestatic 227), (242, .sipush (-1001)), (245, .if_icmp .ne 136), (248, .aload_n 0), (249, .iconst 0), (250, .bipush 10), (252, .invokestatic 227), (255, .sipush (-1001)), (258, .if_icmp .ne 123), (261, .aload_n 0), (262, .iload_n 3), (263, .iconst 0), (264, .iconst 1), (265, .invokestatic 232), (268, .sipush (-1001)), (271, .if_icmp .ne 110), (274, .aload_n 0), (275, .iconst 0), (276, .iload_n 3), (277, .iconst 0), (278, .invokestatic 232), (281, .sipush (-1001)), (284, .if_icmp .ne 97), (287, .aload_n 0), (288, .iconst 3), (289, .iload_n 3), (290, .iconst 0), (291, .invokestatic 271), (294, .ifCond .eq 87), (297, .aload_n 0), (298, .iconst 0), (299, .iconst 1), (300, .bipush (-5))]
def am_c154_4 : List (Nat × Instr) := [(302, .invokestatic 232), (305, .sipush (-1001)), (308, .if_icmp .ne 73), (311, .aload_n 0), (312, .iconst 1), (313, .iconst 0), (314, .iconst 0), (315, .invokestatic 271), (318, .ifCond .eq 63), (321, .aload_n 0), (322, .iload 4), (324, .invokestatic 234), (327, .sipush (-1001)), (330, .if_icmp .ne 51), (333, .aload_n 0), (334, .iconst 3), (335, .iload 4), (337, .iconst 0), (338, .invokestatic 271), (341, .ifCond .eq 40), (344, .aload_n 0), (345, .iconst 0), (346, .invokestatic 236), (349, .sipush (-1001)), (352, .if_icmp .ne 29), (355, .aload_n 0), (356, .bipush 97), (358, .invokestatic 236), (361, .sipush (-1001)), (364, .if_icmp .ne 17), (367, .aload_n 0), (368, .iconst 1), (369, .iconst 0), (370, .iconst 0), (371, .invokestatic 271), (374, .ifCond .eq 7), (377, .iconst 1), (378, .goto 4), (381, .iconst 0), (382, .istore 5)]
def am_c154_5 : List (Nat × Instr) := [(384, .iload 5), (386, .ifCond .eq 412), (389, .aload_n 0), (390, .iload_n 3), (391, .bipush 9), (393, .invokestatic 192), (396, .sipush (-1001)), (399, .if_icmp .ne 399), (402, .aload_n 0), (403, .iconst 0), (404, .bipush 8), (406, .invokestatic 192), (409, .sipush (-1002)), (412, .if_icmp .ne 386), (415, .aload_n 0), (416, .iconst 0), (417, .iconst (-1)), (418, .invokestatic 192), (421, .sipush (-1002)), (424, .if_icmp .ne 374), (427, .aload_n 0), (428, .iload_n 3), (429, .iconst 1), (430, .isub), (431, .bipush 9), (433, .invokestatic 201), (436, .sipush (-1001)), (439, .if_icmp .ne 359), (442, .aload_n 0), (443, .iconst 0), (444, .iconst 2), (445, .invokestatic 201), (448, .sipush (-1002)), (451, .if_icmp .ne 347), (454, .aload_n 0), (455, .bipush 9), (457, .invokestatic 205), (460, .sipush (-1001)), (463, .if_icmp .ne 335), (466, .aload_n 0)]
def am_c154_6 : List (Nat × Instr) := [(467, .iconst 0), (468, .invokestatic 205), (471, .sipush (-1001)), (474, .if_icmp .ne 324), (477, .aload_n 0), (478, .iload 4), (480, .bipush 9), (482, .invokestatic 207), (485, .sipush (-1001)), (488, .if_icmp .ne 310), (491, .aload_n 0), (492, .iconst 0), (493, .bipush 9), (495, .invokestatic 207), (498, .sipush (-1002)), (501, .if_icmp .ne 297), (504, .aload_n 0), (505, .iconst 0), (506, .iconst (-1)), (507, .invokestatic 207), (510, .sipush (-1002)), (513, .if_icmp .ne 285), (516, .aload_n 0), (517, .iload 4), (519, .iconst 0), (520, .invokestatic 209), (523, .sipush (-1001)), (526, .if_icmp .ne 272), (529, .aload_n 0), (530, .iconst 0), (531, .bipush 8), (533, .invokestatic 209), (536, .sipush (-1001)), (539, .if_icmp .ne 259), (542, .aload_n 0), (543, .iconst 0), (544, .iconst (-1)), (545, .invokestatic 209), (548, .sipush (-1001)), (551, .if_icmp .ne 247)]
def am_c154_7 : List (Nat × Instr) := [(554, .aload_n 0), (555, .iload 4), (557, .invokestatic 211), (560, .sipush (-1001)), (563, .if_icmp .ne 235), (566, .aload_n 0), (567, .iload_n 3), (568, .iconst 0), (569, .invokestatic 194), (572, .sipush (-1001)), (575, .if_icmp .ne 223), (578, .aload_n 0), (579, .iconst 0), (580, .bipush 16), (582, .invokestatic 194), (585, .sipush (-1002)), (588, .if_icmp .ne 210), (591, .aload_n 0), (592, .iconst 0), (593, .iconst (-1)), (594, .invokestatic 194), (597, .sipush (-1002)), (600, .if_icmp .ne 198), (603, .aload_n 0), (604, .bipush 16), (606, .invokestatic 215), (609, .sipush (-1001)), (612, .if_icmp .ne 186), (615, .aload_n 0), (616, .iload_n 3), (617, .iconst 1), (618, .invokestatic 196), (621, .sipush (-1001)), (624, .if_icmp .ne 174), (627, .aload_n 0), (628, .iconst (-1)), (629, .iconst 1), (630, .invokestatic 199), (633, .sipush (-1001)), (636, .if_icmp .ne 162)]
def am_c154_8 : List (Nat × Instr) := [(639, .aload_n 0), (640, .iload_n 3), (641, .iconst 1), (642, .isub), (643, .iconst 0), (644, .invokestatic 203), (647, .sipush (-1001)), (650, .if_icmp .ne 148), (653, .aload_n 0), (654, .iconst 0), (655, .sipush 201), (658, .invokestatic 203), (661, .sipush (-1002)), (664, .if_icmp .ne 134), (667, .aload_n 0), (668, .iconst 0), (669, .iconst (-1)), (670, .invokestatic 203), (673, .sipush (-1002)), (676, .if_icmp .ne 122), (679, .aload_n 0), (680, .iload 4), (682, .invokestatic 217), (685, .sipush (-1001)), (688, .if_icmp .ne 110), (691, .aload_n 0), (692, .iconst (-1)), (693, .invokestatic 219), (696, .sipush (-1001)), (699, .if_icmp .ne 99), (702, .aload_n 0), (703, .bipush 16), (705, .invokestatic 213), (708, .sipush (-1001)), (711, .if_icmp .ne 87), (714, .aload_n 0), (715, .iconst (-1)), (716, .invokestatic 146), (719, .sipush (-1001)), (722, .if_icmp .ne 76)]
def am_c154_9 : List (Nat × Instr) := [(725, .aload_n 0), (726, .iconst 3), (727, .invokestatic 146), (730, .sipush (-1001)), (733, .if_icmp .ne 65), (736, .aload_n 0), (737, .iload 4), (739, .invokestatic 149), (742, .sipush (-1001)), (745, .if_icmp .ne 53), (748, .aload_n 0), (749, .iconst (-1)), (750, .invokestatic 151), (753, .sipush (-1001)), (756, .if_icmp .ne 42), (759, .aload_n 0), (760, .bipush 20), (762, .invokestatic 151), (765, .sipush (-1001)), (768, .if_icmp .ne 30), (771, .aload_n 0), (772, .bipush 12), (774, .invokestatic 190), (777, .sipush (-1001)), (780, .if_icmp .ne 18), (783, .aload_n 0), (784, .iconst (-1)), (785, .invokestatic 190), (788, .sipush (-1001)), (791, .if_icmp .ne 7), (794, .iconst 1), (795, .goto 4), (798, .iconst 0), (799, .istore 5), (801, .iload 5), (803, .ifCond .eq 67), (806, .aload_n 0), (807, .ldc_w 275), (810, .invokestatic 263), (813, .sipush (-1001))]
def am_c154_10 : List (Nat × Instr) := [(816, .if_icmp .ne 54), (819, .aload_n 0), (820, .invokevirtual 277), (823, .ifCond .ne 47), (826, .aload_n 0), (827, .ldc_w 280), (830, .invokestatic 263), (833, .sipush (-1002)), (836, .if_icmp .ne 34), (839, .aload_n 0), (840, .iconst 1), (841, .iconst 0), (842, .iconst 1), (843, .invokestatic 271), (846, .ifCond .eq 24), (849, .aload_n 0), (850, .invokevirtual 277), (853, .iconst (-1)), (854, .if_icmp .ne 16), (857, .aload_n 0), (858, .invokestatic 267), (861, .lload_n 1), (862, .lcmp), (863, .ifCond .ne 7), (866, .iconst 1), (867, .goto 4), (870, .iconst 0), (871, .ireturn)]
def am_c154 : List (Nat × Instr) := am_c154_0 ++ (am_c154_1 ++ (am_c154_2 ++ (am_c154_3 ++ (am_c154_4 ++ (am_c154_5 ++ (am_c154_6 ++ (am_c154_7 ++ (am_c154_8 ++ (am_c154_9 ++ (am_c154_10))))))))))
def am_c227_0 : List (Nat × Instr) := [(0, .new 8), (3, .dup), (4, .invokespecial 282), (7, .astore_n 1), (8, .aload_n 1), (9, .invokestatic 283), (12, .sipush (-1001)), (15, .if_icmp .ne 47), (18, .aload_n 1), (19, .invokestatic 285), (22, .sipush (-1001)), (25, .if_icmp .ne 37), (28, .aload_n 1), (29, .invokevirtual 287), (32, .ifCond .ne 30), (35, .aload_n 1), (36, .bipush 96), (38, .invokestatic 236), (41, .ifCond .ne 21), (44, .aload_n 1), (45, .iconst 0), (46, .invokestatic 190), (49, .bipush 96), (51, .if_icmp .ne 11), (54, .aload_n 1), (55, .iconst 1), (56, .invokestatic 190), (59, .ifCond .eq 5), (62, .iconst 0), (63, .ireturn), (64, .iconst 0), (65, .istore_n 2), (66, .iload_n 2), (67, .bipush 60), (69, .if_icmp .ge 27), (72, .aload_n 1), (73, .sipush 300), (76, .iload_n 2), (77, .iadd), (78, .i2c)]
def am_c227_1 : List (Nat × Instr) := [(79, .invokestatic 138), (82, .iload_n 2), (83, .iconst 1), (84, .iadd), (85, .if_icmp .eq 5), (88, .iconst 0), (89, .ireturn), (90, .iinc 2 1), (93, .goto (-27)), (96, .aload_n 1), (97, .bipush 104), (99, .invokestatic 138), (102, .sipush (-1001)), (105, .if_icmp .ne 29), (108, .aload_n 1), (109, .invokestatic 143), (112, .sipush (-1001)), (115, .if_icmp .ne 19), (118, .aload_n 1), (119, .invokevirtual 277), (122, .ifCond .ne 12), (125, .aload_n 1), (126, .bipush 11), (128, .invokestatic 190), (131, .ifCond .eq 5), (134, .iconst 0), (135, .ireturn), (136, .iconst 0), (137, .istore_n 2), (138, .iload_n 2), (139, .bipush 6), (141, .if_icmp .ge 24), (144, .aload_n 1), (145, .bipush 9), (147, .iconst 0), (148, .bipush 9), (150, .invokestatic 160), (153, .iload_n 2), (154, .if_icmp .eq 5), (157, .iconst 0)]
def am_c227_2 : List (Nat × Instr) := [(158, .ireturn), (159, .iinc 2 1), (162, .goto (-24)), (165, .aload_n 1), (166, .bipush 7), (168, .sipush 150), (171, .invokestatic 163), (174, .ifCond .eq 5), (177, .iconst 0), (178, .ireturn), (179, .iconst 0), (180, .istore_n 2), (181, .iload_n 2), (182, .bipush 16), (184, .if_icmp .ge 24), (187, .aload_n 1), (188, .iconst 0), (189, .iconst 5), (190, .ldc_w 290), (193, .invokestatic 232), (196, .iload_n 2), (197, .if_icmp .eq 5), (200, .iconst 0), (201, .ireturn), (202, .iinc 2 1), (205, .goto (-24)), (208, .aload_n 1), (209, .iconst 0), (210, .iconst 0), (211, .iconst 1), (212, .invokestatic 160), (215, .sipush (-1001)), (218, .if_icmp .ne 93), (221, .aload_n 1), (222, .iconst 2), (223, .bipush 6), (225, .iconst 0), (226, .invokestatic 271), (229, .ifCond .eq 82), (232, .aload_n 1)]
def am_c227_3 : List (Nat × Instr) := [(233, .iconst 0), (234, .iconst 1), (235, .bipush 7), (237, .invokestatic 232), (240, .sipush (-1001)), (243, .if_icmp .ne 68), (246, .aload_n 1), (247, .iconst 2), (248, .bipush 16), (250, .iconst 0), (251, .invokestatic 271), (254, .ifCond .eq 57), (257, .aload_n 1), (258, .bipush 10), (260, .invokestatic 190), (263, .bipush 8), (265, .if_icmp .ne 46), (268, .aload_n 1), (269, .iconst 0), (270, .iconst 1), (271, .invokestatic 196), (274, .bipush (-3)), (276, .if_icmp .ne 35), (279, .aload_n 1), (280, .iconst 0), (281, .iconst 1), (282, .invokestatic 199), (285, .ifCond .ne 26), (288, .aload_n 1), (289, .iconst 0), (290, .iconst 4), (291, .invokestatic 192), (294, .bipush 16), (296, .if_icmp .ne 15), (299, .aload_n 1), (300, .iconst 0), (301, .bipush 15), (303, .invokestatic 194), (306, .bipush 15), (308, .if_icmp .eq 5)]
def am_c227_4 : List (Nat × Instr) := [(311, .iconst 0), (312, .ireturn), (313, .aload_n 1), (314, .bipush 24), (316, .invokestatic 236), (319, .ifCond .ne 155), (322, .aload_n 1), (323, .iconst 0), (324, .iconst 2), (325, .invokestatic 207), (328, .iconst 1), (329, .if_icmp .ne 145), (332, .aload_n 1), (333, .iconst 0), (334, .iconst 4), (335, .invokestatic 207), (338, .bipush 8), (340, .if_icmp .ne 134), (343, .aload_n 1), (344, .invokevirtual 221), (347, .bipush 8), (349, .if_icmp .ne 125), (352, .aload_n 1), (353, .iconst 1), (354, .bipush 6), (356, .invokestatic 192), (359, .bipush 8), (361, .if_icmp .ne 113), (364, .aload_n 1), (365, .iconst 0), (366, .invokestatic 217), (369, .bipush 32), (371, .if_icmp .ne 103), (374, .aload_n 1), (375, .iconst 1), (376, .invokestatic 219), (379, .bipush 8), (381, .if_icmp .ne 93), (384, .aload_n 1), (385, .bipush 32)]
def am_c227_5 : List (Nat × Instr) := [(387, .invokestatic 236), (390, .iconst 1), (391, .if_icmp .ne 83), (394, .aload_n 1), (395, .iconst 0), (396, .invokestatic 215), (399, .ifCond .ne 75), (402, .aload_n 1), (403, .iconst 0), (404, .ldc_w 291), (407, .invokestatic 293), (410, .ifCond .eq 64), (413, .aload_n 1), (414, .iconst 2), (415, .bipush 6), (417, .invokestatic 192), (420, .ifCond .ne 54), (423, .aload_n 1), (424, .invokestatic 172), (427, .ldc2_w 297), (430, .dcmp .l), (431, .ifCond .ne 43), (434, .aload_n 1), (435, .iconst 1), (436, .iconst 2), (437, .invokestatic 207), (440, .iconst 2), (441, .if_icmp .ne 33), (444, .aload_n 1), (445, .iconst 2), (446, .iconst 4), (447, .invokestatic 207), (450, .iconst 2), (451, .if_icmp .ne 23), (454, .aload_n 1), (455, .iconst 2), (456, .bipush 6), (458, .invokestatic 207), (461, .iconst 2), (462, .if_icmp .ne 12)]
def am_c227_6 : List (Nat × Instr) := [(465, .aload_n 1), (466, .iconst 0), (467, .invokestatic 213), (470, .iconst 1), (471, .if_icmp .eq 5), (474, .iconst 0), (475, .ireturn), (476, .aload_n 1), (477, .invokestatic 285), (480, .ifCond .ne 29), (483, .aload_n 1), (484, .iconst 0), (485, .invokestatic 190), (488, .ifCond .ne 21), (491, .aload_n 1), (492, .iconst 2), (493, .invokestatic 190), (496, .ifCond .ne 13), (499, .aload_n 1), (500, .invokestatic 283), (503, .sipush (-1001)), (506, .if_icmp .eq 5), (509, .iconst 0), (510, .ireturn), (511, .new 8), (514, .dup), (515, .invokespecial 282), (518, .astore_n 2), (519, .aload_n 2), (520, .aload_n 0), (521, .invokestatic 299), (524, .ifCond .ne 5), (527, .iconst 0), (528, .ireturn), (529, .iconst 0), (530, .istore_n 3), (531, .iload_n 3), (532, .iconst 4), (533, .if_icmp .ge 34), (536, .aload_n 2)]
def am_c227_7 : List (Nat × Instr) := [(537, .iload_n 3), (538, .iload_n 3), (539, .iconst 1), (540, .iadd), (541, .aload_n 0), (542, .bipush 24), (544, .iload_n 3), (545, .iadd), (546, .invokestatic 153), (549, .invokestatic 229), (552, .invokestatic 232), (555, .iload_n 3), (556, .if_icmp .eq 5), (559, .iconst 0), (560, .ireturn), (561, .iinc 3 1), (564, .goto (-33)), (567, .aload_n 2), (568, .iconst 1), (569, .aload_n 0), (570, .bipush 28), (572, .invokestatic 153), (575, .bipush 20), (577, .invokestatic 157), (580, .iadd), (581, .invokestatic 236), (584, .ifCond .ge 5), (587, .iconst 0), (588, .ireturn), (589, .aload_n 2), (590, .invokestatic 267), (593, .lstore_n 3), (594, .aload_n 2), (595, .invokestatic 267), (598, .lload_n 3), (599, .lcmp), (600, .ifCond .ne 10), (603, .aload_n 2), (604, .invokestatic 303), (607, .ifCond .ne 5)]
def am_c227_8 : List (Nat × Instr) := [(610, .iconst 0), (611, .ireturn), (612, .aload_n 2), (613, .invokevirtual 287), (616, .istore 5), (618, .iload 5), (620, .aload_n 2), (621, .iconst 0), (622, .invokestatic 190), (625, .if_icmp .ne 12), (628, .aload_n 2), (629, .invokestatic 267), (632, .lload_n 3), (633, .lcmp), (634, .ifCond .eq 5), (637, .iconst 0), (638, .ireturn), (639, .bipush 13), (641, .newarray .long), (643, .astore 6), (645, .iconst 0), (646, .istore 7), (648, .iconst 0), (649, .istore 8), (651, .iload 8), (653, .bipush 12), (655, .if_icmp .ge 63), (658, .aload_n 2), (659, .invokestatic 267), (662, .lstore 9), (664, .aload_n 2), (665, .aload_n 0), (666, .bipush 20), (668, .iload 8), (670, .iadd), (671, .invokestatic 153), (674, .iload 8), (676, .sipush 977), (679, .imul), (680, .ixor)]
def am_c227_9 : List (Nat × Instr) := [(681, .invokestatic 307), (684, .ifCond .eq 16), (687, .aload 6), (689, .iload 7), (691, .iinc 7 1), (694, .lload 9), (696, .lastore), (697, .goto 15), (700, .aload_n 2), (701, .invokestatic 267), (704, .lload 9), (706, .lcmp), (707, .ifCond .eq 5), (710, .iconst 0), (711, .ireturn), (712, .iinc 8 1), (715, .goto (-64)), (718, .bipush 8), (720, .iload 7), (722, .invokestatic 311), (725, .istore 8), (727, .iconst 1), (728, .istore 9), (730, .iload 9), (732, .iload 8), (734, .if_icmp .gt 53), (737, .aload_n 2), (738, .invokestatic 283), (741, .istore 10), (743, .iload 10), (745, .iload 8), (747, .iload 9), (749, .isub), (750, .if_icmp .lt 29), (753, .iload 10), (755, .bipush 8), (757, .iload 9), (759, .isub), (760, .if_icmp .gt 19), (763, .aload_n 2)]
def am_c227_10 : List (Nat × Instr) := [(764, .invokestatic 267), (767, .aload 6), (769, .iload 7), (771, .iload 9), (773, .isub), (774, .laload), (775, .lcmp), (776, .ifCond .eq 5), (779, .iconst 0), (780, .ireturn), (781, .iinc 9 1), (784, .goto (-54)), (787, .aload_n 2), (788, .invokestatic 285), (791, .iload 5), (793, .if_icmp .ne 44), (796, .aload_n 2), (797, .invokestatic 283), (800, .sipush (-1001)), (803, .if_icmp .ne 34), (806, .aload_n 2), (807, .invokestatic 267), (810, .lload_n 3), (811, .lcmp), (812, .ifCond .ne 25), (815, .aload_n 2), (816, .invokestatic 285), (819, .iload 5), (821, .if_icmp .ne 16), (824, .aload_n 2), (825, .invokestatic 267), (828, .lload_n 3), (829, .lcmp), (830, .ifCond .ne 7), (833, .iconst 1), (834, .goto 4), (837, .iconst 0), (838, .ireturn)]
def am_c227 : List (Nat × Instr) := am_c227_0 ++ (am_c227_1 ++ (am_c227_2 ++ (am_c227_3 ++ (am_c227_4 ++ (am_c227_5 ++ (am_c227_6 ++ (am_c227_7 ++ (am_c227_8 ++ (am_c227_9 ++ (am_c227_10))))))))))
def am_c228 : List (Nat × Instr) := [(0, .aload_n 0), (1, .getfield 34), (4, .ifCond .le 12), (7, .aload_n 0), (8, .getfield 9), (11, .iconst 0), (12, .iaload), (13, .goto 4), (16, .iconst (-1)), (17, .ireturn)]
def am_c229 : List (Nat × Instr) := [(0, .aload_n 0), (1, .getfield 35), (4, .aload_n 0), (5, .getfield 45), (8, .if_icmp .ge 13), (11, .aload_n 0), (12, .getfield 9), (15, .aload_n 0), (16, .getfield 35), (19, .iconst 0), (20, .iastore), (21, .return_)]
def am_c230 : List (Nat × Instr) := [(0, .iload_n 1), (1, .iconst 1), (2, .if_icmp .lt 22), (5, .iload_n 1), (6, .bipush 8), (8, .if_icmp .gt 16), (11, .aload_n 0), (12, .getfield 23), (15, .iload_n 1), (16, .iaload), (17, .iconst 4), (18, .irem), (19, .iconst 1), (20, .iadd), (21, .goto 4), (24, .iconst 1), (25, .ireturn)]
def am_c231 : List (Nat × Instr) := [(0, .iload_n 0), (1, .iconst 1), (2, .if_icmp .lt 13), (5, .iload_n 0), (6, .bipush 8), (8, .if_icmp .gt 7), (11, .iconst 1), (12, .goto 4), (15, .iconst 0), (16, .ireturn)]
def am_code : Nat → List (Nat × Instr) := fun k => match k with
  | 0 => am_c0
  | 1 => am_c1
  | 2 => am_c2
  | 3 => am_c3
  | 4 => am_c4
  | 5 => am_c5
  | 6 => am_c6
  | 7 => am_c7
  | 8 => am_c8
  | 9 => am_c9
  | 10 => am_c10
  | 11 => am_c11
  | 12 => am_c12
  | 13 => am_c13
  | 14 => am_c14
  | 15 => am_c15
  | 16 => am_c16
  | 17 => am_c17
  | 18 => am_c18
  | 19 => am_c19
  | 20 => am_c20
  | 21 => am_c21
  | 22 => am_c22
  | 23 => am_c23
  | 24 => am_c24
  | 25 => am_c25
  | 26 => am_c26
  | 27 => am_c27
  | 28 => am_c28
  | 29 => am_c29
  | 30 => am_c30
  | 31 => am_c31
  | 32 => am_c32
  | 33 => am_c33
  | 34 => am_c34
  | 35 => am_c35
  | 36 => am_c36
  | 37 => am_c37
  | 38 => am_c38
  | 39 => am_c39
  | 40 => am_c40
  | 41 => am_c41
  | 42 => am_c42
  | 43 => am_c43
  | 44 => am_c44
  | 45 => am_c45
  | 46 => am_c46
  | 47 => am_c47
  | 48 => am_c48
  | 49 => am_c49
  | 50 => am_c50
  | 51 => am_c51
  | 52 => am_c52
  | 53 => am_c53
  | 54 => am_c54
  | 55 => am_c55
  | 56 => am_c56
  | 57 => am_c57
  | 58 => am_c58
  | 59 => am_c59
  | 60 => am_c60
  | 61 => am_c61
  | 62 => am_c62
  | 63 => am_c63
  | 64 => am_c64
  | 65 => am_c65
  | 66 => am_c66
  | 67 => am_c67
  | 68 => am_c68
  | 69 => am_c69
  | 70 => am_c70
  | 71 => am_c71
  | 72 => am_c72
  | 73 => am_c73
  | 74 => am_c74
  | 75 => am_c75
  | 76 => am_c76
  | 77 => am_c77
  | 78 => am_c78
  | 79 => am_c79
  | 80 => am_c80
  | 81 => am_c81
  | 82 => am_c82
  | 83 => am_c83
  | 84 => am_c84
  | 85 => am_c85
  | 86 => am_c86
  | 87 => am_c87
  | 88 => am_c88
  | 89 => am_c89
  | 90 => am_c90
  | 91 => am_c91
  | 92 => am_c92
  | 93 => am_c93
  | 94 => am_c94
  | 95 => am_c95
  | 96 => am_c96
  | 97 => am_c97
  | 98 => am_c98
  | 99 => am_c99
  | 100 => am_c100
  | 101 => am_c101
  | 102 => am_c102
  | 103 => am_c103
  | 104 => am_c104
  | 105 => am_c105
  | 106 => am_c106
  | 107 => am_c107
  | 108 => am_c108
  | 109 => am_c109
  | 110 => am_c110
  | 111 => am_c111
  | 112 => am_c112
  | 113 => am_c113
  | 114 => am_c114
  | 115 => am_c115
  | 116 => am_c116
  | 117 => am_c117
  | 118 => am_c118
  | 119 => am_c119
  | 120 => am_c120
  | 121 => am_c121
  | 122 => am_c122
  | 123 => am_c123
  | 124 => am_c124
  | 125 => am_c125
  | 126 => am_c126
  | 127 => am_c127
  | 128 => am_c128
  | 129 => am_c129
  | 130 => am_c130
  | 131 => am_c131
  | 132 => am_c132
  | 133 => am_c133
  | 134 => am_c134
  | 135 => am_c135
  | 136 => am_c136
  | 137 => am_c137
  | 138 => am_c138
  | 139 => am_c139
  | 140 => am_c140
  | 141 => am_c141
  | 142 => am_c142
  | 143 => am_c143
  | 144 => am_c144
  | 145 => am_c145
  | 146 => am_c146
  | 147 => am_c147
  | 148 => am_c148
  | 149 => am_c149
  | 150 => am_c150
  | 151 => am_c151
  | 152 => am_c152
  | 153 => am_c153
  | 154 => am_c154
  | 155 => am_c0
  | 156 => am_c0
  | 157 => am_c0
  | 158 => am_c0
  | 159 => am_c0
  | 160 => am_c0
  | 161 => am_c0
  | 162 => am_c0
  | 163 => am_c0
  | 164 => am_c0
  | 165 => am_c0
  | 166 => am_c0
  | 167 => am_c0
  | 168 => am_c0
  | 169 => am_c0
  | 170 => am_c0
  | 171 => am_c0
  | 172 => am_c0
  | 173 => am_c0
  | 174 => am_c0
  | 175 => am_c0
  | 176 => am_c0
  | 177 => am_c0
  | 178 => am_c0
  | 179 => am_c0
  | 180 => am_c0
  | 181 => am_c0
  | 182 => am_c0
  | 183 => am_c0
  | 184 => am_c0
  | 185 => am_c0
  | 186 => am_c0
  | 187 => am_c0
  | 188 => am_c0
  | 189 => am_c0
  | 190 => am_c0
  | 191 => am_c0
  | 192 => am_c0
  | 193 => am_c0
  | 194 => am_c0
  | 195 => am_c0
  | 196 => am_c0
  | 197 => am_c0
  | 198 => am_c0
  | 199 => am_c0
  | 200 => am_c0
  | 201 => am_c0
  | 202 => am_c0
  | 203 => am_c0
  | 204 => am_c0
  | 205 => am_c0
  | 206 => am_c0
  | 207 => am_c0
  | 208 => am_c0
  | 209 => am_c0
  | 210 => am_c0
  | 211 => am_c0
  | 212 => am_c0
  | 213 => am_c0
  | 214 => am_c0
  | 215 => am_c0
  | 216 => am_c0
  | 217 => am_c0
  | 218 => am_c0
  | 219 => am_c0
  | 220 => am_c0
  | 221 => am_c0
  | 222 => am_c0
  | 223 => am_c0
  | 224 => am_c0
  | 225 => am_c0
  | 226 => am_c0
  | 227 => am_c227
  | 228 => am_c228
  | 229 => am_c229
  | 230 => am_c230
  | 231 => am_c231
  | _ => []
def am_own : Nat → Nat := fun k => match k with
  | 0 => 0
  | 1 => 0
  | 2 => 1
  | 3 => 1
  | 4 => 1
  | 5 => 1
  | 6 => 1
  | 7 => 1
  | 8 => 1
  | 9 => 1
  | 10 => 1
  | 11 => 1
  | 12 => 1
  | 13 => 1
  | 14 => 1
  | 15 => 2
  | 16 => 2
  | 17 => 2
  | 18 => 2
  | 19 => 2
  | 20 => 2
  | 21 => 3
  | 22 => 3
  | 23 => 3
  | 24 => 3
  | 25 => 4
  | 26 => 4
  | 27 => 4
  | 28 => 4
  | 29 => 4
  | 30 => 4
  | 31 => 4
  | 32 => 4
  | 33 => 5
  | 34 => 5
  | 35 => 5
  | 36 => 5
  | 37 => 5
  | 38 => 5
  | 39 => 5
  | 40 => 5
  | 41 => 5
  | 42 => 5
  | 43 => 5
  | 44 => 5
  | 45 => 5
  | 46 => 5
  | 47 => 5
  | 48 => 5
  | 49 => 5
  | 50 => 5
  | 51 => 5
  | 52 => 5
  | 53 => 5
  | 54 => 5
  | 55 => 5
  | 56 => 5
  | 57 => 5
  | 58 => 5
  | 59 => 5
  | 60 => 5
  | 61 => 5
  | 62 => 6
  | 63 => 6
  | 64 => 7
  | 65 => 8
  | 66 => 8
  | 67 => 8
  | 68 => 8
  | 69 => 8
  | 70 => 8
  | 71 => 8
  | 72 => 8
  | 73 => 8
  | 74 => 8
  | 75 => 8
  | 76 => 8
  | 77 => 8
  | 78 => 8
  | 79 => 8
  | 80 => 8
  | 81 => 8
  | 82 => 8
  | 83 => 8
  | 84 => 8
  | 85 => 8
  | 86 => 8
  | 87 => 8
  | 88 => 8
  | 89 => 8
  | 90 => 8
  | 91 => 8
  | 92 => 8
  | 93 => 8
  | 94 => 8
  | 95 => 8
  | 96 => 8
  | 97 => 8
  | 98 => 8
  | 99 => 8
  | 100 => 8
  | 101 => 8
  | 102 => 8
  | 103 => 8
  | 104 => 8
  | 105 => 8
  | 106 => 8
  | 107 => 8
  | 108 => 8
  | 109 => 8
  | 110 => 8
  | 111 => 8
  | 112 => 8
  | 113 => 10
  | 114 => 10
  | 115 => 10
  | 116 => 10
  | 117 => 10
  | 118 => 10
  | 119 => 10
  | 120 => 10
  | 121 => 10
  | 122 => 10
  | 123 => 10
  | 124 => 10
  | 125 => 10
  | 126 => 10
  | 127 => 10
  | 128 => 10
  | 129 => 10
  | 130 => 10
  | 131 => 10
  | 132 => 10
  | 133 => 10
  | 134 => 10
  | 135 => 10
  | 136 => 10
  | 137 => 10
  | 138 => 10
  | 139 => 10
  | 140 => 10
  | 141 => 10
  | 142 => 10
  | 143 => 10
  | 144 => 10
  | 145 => 10
  | 146 => 10
  | 147 => 10
  | 148 => 10
  | 149 => 10
  | 150 => 10
  | 151 => 10
  | 152 => 10
  | 153 => 10
  | 154 => 10
  | 155 => 0
  | 156 => 0
  | 157 => 0
  | 158 => 0
  | 159 => 0
  | 160 => 0
  | 161 => 0
  | 162 => 0
  | 163 => 0
  | 164 => 0
  | 165 => 0
  | 166 => 0
  | 167 => 0
  | 168 => 0
  | 169 => 0
  | 170 => 0
  | 171 => 0
  | 172 => 0
  | 173 => 0
  | 174 => 0
  | 175 => 0
  | 176 => 0
  | 177 => 0
  | 178 => 0
  | 179 => 0
  | 180 => 0
  | 181 => 0
  | 182 => 0
  | 183 => 0
  | 184 => 0
  | 185 => 0
  | 186 => 0
  | 187 => 0
  | 188 => 0
  | 189 => 0
  | 190 => 0
  | 191 => 0
  | 192 => 0
  | 193 => 0
  | 194 => 0
  | 195 => 0
  | 196 => 0
  | 197 => 0
  | 198 => 0
  | 199 => 0
  | 200 => 0
  | 201 => 0
  | 202 => 0
  | 203 => 0
  | 204 => 0
  | 205 => 0
  | 206 => 0
  | 207 => 0
  | 208 => 0
  | 209 => 0
  | 210 => 0
  | 211 => 0
  | 212 => 0
  | 213 => 0
  | 214 => 0
  | 215 => 0
  | 216 => 0
  | 217 => 0
  | 218 => 0
  | 219 => 0
  | 220 => 0
  | 221 => 0
  | 222 => 0
  | 223 => 0
  | 224 => 0
  | 225 => 0
  | 226 => 0
  | 227 => 10
  | 228 => 2
  | 229 => 4
  | 230 => 5
  | 231 => 8
  | _ => 10
def am_y : Nat → MethodName := fun k => match k with
  | 0 => yX0_init
  | 1 => yX0_set
  | 2 => yX1_init
  | 3 => yX1_add
  | 4 => yX1_read
  | 5 => yX1_readCommand
  | 6 => yX1_readSend
  | 7 => yX1_readOneNumber
  | 8 => yX1_readSilence
  | 9 => yX1_readSetting
  | 10 => yX1_nextCharacter
  | 11 => yX1_readCharacter
  | 12 => yX1_readDigit
  | 13 => yX1_readNumber
  | 14 => yX1_readSigns
  | 15 => yX2_init
  | 16 => yX2_begin
  | 17 => yX2_takeFrom
  | 18 => yX2_isSilentAt
  | 19 => yX2_join
  | 20 => yX2_leave
  | 21 => yX3_init
  | 22 => yX3_spare
  | 23 => yX3_keepSpare
  | 24 => yX3_takeLatest
  | 25 => yX4_init
  | 26 => yX4_begin
  | 27 => yX4_takeFrom
  | 28 => yX4_makeDue
  | 29 => yX4_isRungOut
  | 30 => yX4_dueSign
  | 31 => yX4_nextFrom
  | 32 => yX4_lostSigns
  | 33 => yX5_init
  | 34 => yX5_takeFrom
  | 35 => yX5_hasConvent
  | 36 => yX5_hasRidge
  | 37 => yX5_hasMessage
  | 38 => yX5_hourOfDay
  | 39 => yX5_carryOut
  | 40 => yX5_addConvent
  | 41 => yX5_givePsalm
  | 42 => yX5_setSilence
  | 43 => yX5_setWind
  | 44 => yX5_setEar
  | 45 => yX5_addMessage
  | 46 => yX5_spell
  | 47 => yX5_dropMessage
  | 48 => yX5_passHours
  | 49 => yX5_passHour
  | 50 => yX5_ring
  | 51 => yX5_moveOn
  | 52 => yX5_arrive
  | 53 => yX5_beginNextHour
  | 54 => yX5_strengthBetween
  | 55 => yX5_isHeardBetween
  | 56 => yX5_countAheadInRank
  | 57 => yX5_isAheadInRank
  | 58 => yX5_countSignsWithPsalm
  | 59 => yX5_countMessages
  | 60 => yX5_countHoursRung
  | 61 => yX5_countSilentConvents
  | 62 => yX6_init
  | 63 => yX6_because
  | 64 => yX7_init
  | 65 => yX8_init
  | 66 => yX8_convent
  | 67 => yX8_code
  | 68 => yX8_silence
  | 69 => yX8_wind
  | 70 => yX8_ear
  | 71 => yX8_send
  | 72 => yX8_drop
  | 73 => yX8_hours
  | 74 => yX8_changeBySingle
  | 75 => yX8_conventOf
  | 76 => yX8_ridgeOf
  | 77 => yX8_psalm
  | 78 => yX8_strength
  | 79 => yX8_hears
  | 80 => yX8_windIn
  | 81 => yX8_meanEar
  | 82 => yX8_askedConvent
  | 83 => yX8_askedRidge
  | 84 => yX8_askedNeighbour
  | 85 => yX8_messageOf
  | 86 => yX8_sign
  | 87 => yX8_signs
  | 88 => yX8_waiting
  | 89 => yX8_arrived
  | 90 => yX8_arrivesIn
  | 91 => yX8_wouldLose
  | 92 => yX8_hoursUntilArrived
  | 93 => yX8_askedMessage
  | 94 => yX8_ranked
  | 95 => yX8_lost
  | 96 => yX8_lostAgain
  | 97 => yX8_lostShare
  | 98 => yX8_append
  | 99 => yX8_commands
  | 100 => yX8_faultPosition
  | 101 => yX8_reason
  | 102 => yX8_line
  | 103 => yX8_writeDigit
  | 104 => yX8_write
  | 105 => yX8_character
  | 106 => yX8_account
  | 107 => yX8_undo
  | 108 => yX8_save
  | 109 => yX8_restore
  | 110 => yX8_isDigit
  | 111 => yX8_isHourOfDay
  | 112 => yX8_turnedWind
  | 113 => yL_at
  | 114 => yL_some
  | 115 => yL_convent
  | 116 => yL_code
  | 117 => yL_silence
  | 118 => yL_wind
  | 119 => yL_ear
  | 120 => yL_send
  | 121 => yL_drop
  | 122 => yL_hours
  | 123 => yL_conventOf
  | 124 => yL_ridgeOf
  | 125 => yL_psalm
  | 126 => yL_messageOf
  | 127 => yL_sign
  | 128 => yL_signs
  | 129 => yL_waiting
  | 130 => yL_arrived
  | 131 => yL_strength
  | 132 => yL_windIn
  | 133 => yL_arrivesIn
  | 134 => yL_wouldLose
  | 135 => yL_ranked
  | 136 => yL_append
  | 137 => yL_commands
  | 138 => yL_reason
  | 139 => yL_line
  | 140 => yL_character
  | 141 => yL_meanEar
  | 142 => yL_lostShare
  | 143 => yL_account
  | 144 => yL_undo
  | 145 => yL_restore
  | 146 => yL_hears
  | 147 => yL_reads
  | 148 => yL_is
  | 149 => yL_isLine
  | 150 => yL_makes
  | 151 => yL_some8
  | 152 => yL_asks
  | 153 => yL_changes
  | 154 => yL_refused
  | 155 => yX0_init
  | 156 => yX0_init
  | 157 => yX0_init
  | 158 => yX0_init
  | 159 => yX0_init
  | 160 => yX0_init
  | 161 => yX0_init
  | 162 => yX0_init
  | 163 => yX0_init
  | 164 => yX0_init
  | 165 => yX0_init
  | 166 => yX0_init
  | 167 => yX0_init
  | 168 => yX0_init
  | 169 => yX0_init
  | 170 => yX0_init
  | 171 => yX0_init
  | 172 => yX0_init
  | 173 => yX0_init
  | 174 => yX0_init
  | 175 => yX0_init
  | 176 => yX0_init
  | 177 => yX0_init
  | 178 => yX0_init
  | 179 => yX0_init
  | 180 => yX0_init
  | 181 => yX0_init
  | 182 => yX0_init
  | 183 => yX0_init
  | 184 => yX0_init
  | 185 => yX0_init
  | 186 => yX0_init
  | 187 => yX0_init
  | 188 => yX0_init
  | 189 => yX0_init
  | 190 => yX0_init
  | 191 => yX0_init
  | 192 => yX0_init
  | 193 => yX0_init
  | 194 => yX0_init
  | 195 => yX0_init
  | 196 => yX0_init
  | 197 => yX0_init
  | 198 => yX0_init
  | 199 => yX0_init
  | 200 => yX0_init
  | 201 => yX0_init
  | 202 => yX0_init
  | 203 => yX0_init
  | 204 => yX0_init
  | 205 => yX0_init
  | 206 => yX0_init
  | 207 => yX0_init
  | 208 => yX0_init
  | 209 => yX0_init
  | 210 => yX0_init
  | 211 => yX0_init
  | 212 => yX0_init
  | 213 => yX0_init
  | 214 => yX0_init
  | 215 => yX0_init
  | 216 => yX0_init
  | 217 => yX0_init
  | 218 => yX0_init
  | 219 => yX0_init
  | 220 => yX0_init
  | 221 => yX0_init
  | 222 => yX0_init
  | 223 => yX0_init
  | 224 => yX0_init
  | 225 => yX0_init
  | 226 => yX0_init
  | 227 => yL_law
  | 228 => yX2_firstWaiting
  | 229 => yX4_loseDueSign
  | 230 => yX5_hoursOf
  | 231 => yX8_isSign
  | _ => yL_law
def am_by : Nat → ByteArray := fun k => match k with
  | 0 => cX0_init
  | 1 => cX0_set
  | 2 => cX1_init
  | 3 => cX1_add
  | 4 => cX1_read
  | 5 => cX1_readCommand
  | 6 => cX1_readSend
  | 7 => cX1_readOneNumber
  | 8 => cX1_readSilence
  | 9 => cX1_readSetting
  | 10 => cX1_nextCharacter
  | 11 => cX1_readCharacter
  | 12 => cX1_readDigit
  | 13 => cX1_readNumber
  | 14 => cX1_readSigns
  | 15 => cX2_init
  | 16 => cX2_begin
  | 17 => cX2_takeFrom
  | 18 => cX2_isSilentAt
  | 19 => cX2_join
  | 20 => cX2_leave
  | 21 => cX3_init
  | 22 => cX3_spare
  | 23 => cX3_keepSpare
  | 24 => cX3_takeLatest
  | 25 => cX4_init
  | 26 => cX4_begin
  | 27 => cX4_takeFrom
  | 28 => cX4_makeDue
  | 29 => cX4_isRungOut
  | 30 => cX4_dueSign
  | 31 => cX4_nextFrom
  | 32 => cX4_lostSigns
  | 33 => cX5_init
  | 34 => cX5_takeFrom
  | 35 => cX5_hasConvent
  | 36 => cX5_hasRidge
  | 37 => cX5_hasMessage
  | 38 => cX5_hourOfDay
  | 39 => cX5_carryOut
  | 40 => cX5_addConvent
  | 41 => cX5_givePsalm
  | 42 => cX5_setSilence
  | 43 => cX5_setWind
  | 44 => cX5_setEar
  | 45 => cX5_addMessage
  | 46 => cX5_spell
  | 47 => cX5_dropMessage
  | 48 => cX5_passHours
  | 49 => cX5_passHour
  | 50 => cX5_ring
  | 51 => cX5_moveOn
  | 52 => cX5_arrive
  | 53 => cX5_beginNextHour
  | 54 => cX5_strengthBetween
  | 55 => cX5_isHeardBetween
  | 56 => cX5_countAheadInRank
  | 57 => cX5_isAheadInRank
  | 58 => cX5_countSignsWithPsalm
  | 59 => cX5_countMessages
  | 60 => cX5_countHoursRung
  | 61 => cX5_countSilentConvents
  | 62 => cX6_init
  | 63 => cX6_because
  | 64 => cX7_init
  | 65 => cX8_init
  | 66 => cX8_convent
  | 67 => cX8_code
  | 68 => cX8_silence
  | 69 => cX8_wind
  | 70 => cX8_ear
  | 71 => cX8_send
  | 72 => cX8_drop
  | 73 => cX8_hours
  | 74 => cX8_changeBySingle
  | 75 => cX8_conventOf
  | 76 => cX8_ridgeOf
  | 77 => cX8_psalm
  | 78 => cX8_strength
  | 79 => cX8_hears
  | 80 => cX8_windIn
  | 81 => cX8_meanEar
  | 82 => cX8_askedConvent
  | 83 => cX8_askedRidge
  | 84 => cX8_askedNeighbour
  | 85 => cX8_messageOf
  | 86 => cX8_sign
  | 87 => cX8_signs
  | 88 => cX8_waiting
  | 89 => cX8_arrived
  | 90 => cX8_arrivesIn
  | 91 => cX8_wouldLose
  | 92 => cX8_hoursUntilArrived
  | 93 => cX8_askedMessage
  | 94 => cX8_ranked
  | 95 => cX8_lost
  | 96 => cX8_lostAgain
  | 97 => cX8_lostShare
  | 98 => cX8_append
  | 99 => cX8_commands
  | 100 => cX8_faultPosition
  | 101 => cX8_reason
  | 102 => cX8_line
  | 103 => cX8_writeDigit
  | 104 => cX8_write
  | 105 => cX8_character
  | 106 => cX8_account
  | 107 => cX8_undo
  | 108 => cX8_save
  | 109 => cX8_restore
  | 110 => cX8_isDigit
  | 111 => cX8_isHourOfDay
  | 112 => cX8_turnedWind
  | 113 => cL_at
  | 114 => cL_some
  | 115 => cL_convent
  | 116 => cL_code
  | 117 => cL_silence
  | 118 => cL_wind
  | 119 => cL_ear
  | 120 => cL_send
  | 121 => cL_drop
  | 122 => cL_hours
  | 123 => cL_conventOf
  | 124 => cL_ridgeOf
  | 125 => cL_psalm
  | 126 => cL_messageOf
  | 127 => cL_sign
  | 128 => cL_signs
  | 129 => cL_waiting
  | 130 => cL_arrived
  | 131 => cL_strength
  | 132 => cL_windIn
  | 133 => cL_arrivesIn
  | 134 => cL_wouldLose
  | 135 => cL_ranked
  | 136 => cL_append
  | 137 => cL_commands
  | 138 => cL_reason
  | 139 => cL_line
  | 140 => cL_character
  | 141 => cL_meanEar
  | 142 => cL_lostShare
  | 143 => cL_account
  | 144 => cL_undo
  | 145 => cL_restore
  | 146 => cL_hears
  | 147 => cL_reads
  | 148 => cL_is
  | 149 => cL_isLine
  | 150 => cL_makes
  | 151 => cL_some8
  | 152 => cL_asks
  | 153 => cL_changes
  | 154 => cL_refused
  | 155 => cX0_init
  | 156 => cX0_init
  | 157 => cX0_init
  | 158 => cX0_init
  | 159 => cX0_init
  | 160 => cX0_init
  | 161 => cX0_init
  | 162 => cX0_init
  | 163 => cX0_init
  | 164 => cX0_init
  | 165 => cX0_init
  | 166 => cX0_init
  | 167 => cX0_init
  | 168 => cX0_init
  | 169 => cX0_init
  | 170 => cX0_init
  | 171 => cX0_init
  | 172 => cX0_init
  | 173 => cX0_init
  | 174 => cX0_init
  | 175 => cX0_init
  | 176 => cX0_init
  | 177 => cX0_init
  | 178 => cX0_init
  | 179 => cX0_init
  | 180 => cX0_init
  | 181 => cX0_init
  | 182 => cX0_init
  | 183 => cX0_init
  | 184 => cX0_init
  | 185 => cX0_init
  | 186 => cX0_init
  | 187 => cX0_init
  | 188 => cX0_init
  | 189 => cX0_init
  | 190 => cX0_init
  | 191 => cX0_init
  | 192 => cX0_init
  | 193 => cX0_init
  | 194 => cX0_init
  | 195 => cX0_init
  | 196 => cX0_init
  | 197 => cX0_init
  | 198 => cX0_init
  | 199 => cX0_init
  | 200 => cX0_init
  | 201 => cX0_init
  | 202 => cX0_init
  | 203 => cX0_init
  | 204 => cX0_init
  | 205 => cX0_init
  | 206 => cX0_init
  | 207 => cX0_init
  | 208 => cX0_init
  | 209 => cX0_init
  | 210 => cX0_init
  | 211 => cX0_init
  | 212 => cX0_init
  | 213 => cX0_init
  | 214 => cX0_init
  | 215 => cX0_init
  | 216 => cX0_init
  | 217 => cX0_init
  | 218 => cX0_init
  | 219 => cX0_init
  | 220 => cX0_init
  | 221 => cX0_init
  | 222 => cX0_init
  | 223 => cX0_init
  | 224 => cX0_init
  | 225 => cX0_init
  | 226 => cX0_init
  | 227 => cL_law
  | 228 => cX2_firstWaiting
  | 229 => cX4_loseDueSign
  | 230 => cX5_hoursOf
  | 231 => cX8_isSign
  | _ => cL_law
def am_mL : Nat → Nat := fun k => match k with
  | 0 => 1
  | 1 => 5
  | 2 => 2
  | 3 => 2
  | 4 => 3
  | 5 => 2
  | 6 => 5
  | 7 => 4
  | 8 => 5
  | 9 => 5
  | 10 => 1
  | 11 => 2
  | 12 => 4
  | 13 => 3
  | 14 => 4
  | 15 => 1
  | 16 => 3
  | 17 => 2
  | 18 => 2
  | 19 => 2
  | 20 => 4
  | 21 => 2
  | 22 => 1
  | 23 => 1
  | 24 => 1
  | 25 => 1
  | 26 => 4
  | 27 => 2
  | 28 => 2
  | 29 => 1
  | 30 => 1
  | 31 => 2
  | 32 => 3
  | 33 => 2
  | 34 => 3
  | 35 => 2
  | 36 => 2
  | 37 => 2
  | 38 => 1
  | 39 => 3
  | 40 => 7
  | 41 => 5
  | 42 => 5
  | 43 => 5
  | 44 => 5
  | 45 => 7
  | 46 => 7
  | 47 => 4
  | 48 => 5
  | 49 => 7
  | 50 => 5
  | 51 => 4
  | 52 => 3
  | 53 => 2
  | 54 => 4
  | 55 => 3
  | 56 => 4
  | 57 => 5
  | 58 => 3
  | 59 => 4
  | 60 => 3
  | 61 => 3
  | 62 => 1
  | 63 => 3
  | 64 => 1
  | 65 => 1
  | 66 => 4
  | 67 => 3
  | 68 => 4
  | 69 => 3
  | 70 => 3
  | 71 => 4
  | 72 => 2
  | 73 => 2
  | 74 => 2
  | 75 => 4
  | 76 => 4
  | 77 => 2
  | 78 => 3
  | 79 => 3
  | 80 => 5
  | 81 => 3
  | 82 => 2
  | 83 => 2
  | 84 => 4
  | 85 => 4
  | 86 => 4
  | 87 => 5
  | 88 => 4
  | 89 => 2
  | 90 => 3
  | 91 => 2
  | 92 => 4
  | 93 => 2
  | 94 => 4
  | 95 => 3
  | 96 => 3
  | 97 => 3
  | 98 => 2
  | 99 => 2
  | 100 => 1
  | 101 => 2
  | 102 => 4
  | 103 => 2
  | 104 => 2
  | 105 => 2
  | 106 => 2
  | 107 => 1
  | 108 => 1
  | 109 => 1
  | 110 => 1
  | 111 => 1
  | 112 => 2
  | 113 => 2
  | 114 => 3
  | 115 => 5
  | 116 => 4
  | 117 => 5
  | 118 => 4
  | 119 => 4
  | 120 => 5
  | 121 => 3
  | 122 => 3
  | 123 => 4
  | 124 => 4
  | 125 => 3
  | 126 => 4
  | 127 => 4
  | 128 => 3
  | 129 => 4
  | 130 => 3
  | 131 => 4
  | 132 => 4
  | 133 => 3
  | 134 => 3
  | 135 => 3
  | 136 => 3
  | 137 => 2
  | 138 => 3
  | 139 => 3
  | 140 => 3
  | 141 => 2
  | 142 => 2
  | 143 => 3
  | 144 => 2
  | 145 => 2
  | 146 => 4
  | 147 => 3
  | 148 => 4
  | 149 => 4
  | 150 => 3
  | 151 => 3
  | 152 => 6
  | 153 => 3
  | 154 => 6
  | 155 => 1
  | 156 => 1
  | 157 => 1
  | 158 => 1
  | 159 => 1
  | 160 => 1
  | 161 => 1
  | 162 => 1
  | 163 => 1
  | 164 => 1
  | 165 => 1
  | 166 => 1
  | 167 => 1
  | 168 => 1
  | 169 => 1
  | 170 => 1
  | 171 => 1
  | 172 => 1
  | 173 => 1
  | 174 => 1
  | 175 => 1
  | 176 => 1
  | 177 => 1
  | 178 => 1
  | 179 => 1
  | 180 => 1
  | 181 => 1
  | 182 => 1
  | 183 => 1
  | 184 => 1
  | 185 => 1
  | 186 => 1
  | 187 => 1
  | 188 => 1
  | 189 => 1
  | 190 => 1
  | 191 => 1
  | 192 => 1
  | 193 => 1
  | 194 => 1
  | 195 => 1
  | 196 => 1
  | 197 => 1
  | 198 => 1
  | 199 => 1
  | 200 => 1
  | 201 => 1
  | 202 => 1
  | 203 => 1
  | 204 => 1
  | 205 => 1
  | 206 => 1
  | 207 => 1
  | 208 => 1
  | 209 => 1
  | 210 => 1
  | 211 => 1
  | 212 => 1
  | 213 => 1
  | 214 => 1
  | 215 => 1
  | 216 => 1
  | 217 => 1
  | 218 => 1
  | 219 => 1
  | 220 => 1
  | 221 => 1
  | 222 => 1
  | 223 => 1
  | 224 => 1
  | 225 => 1
  | 226 => 1
  | 227 => 11
  | 228 => 1
  | 229 => 1
  | 230 => 2
  | 231 => 1
  | _ => 9
def am_ret : Nat → Option FieldType := fun k => match k with
  | 0 => none
  | 1 => none
  | 2 => none
  | 3 => none
  | 4 => (some .int)
  | 5 => (some .boolean)
  | 6 => (some .boolean)
  | 7 => (some .boolean)
  | 8 => (some .boolean)
  | 9 => (some .boolean)
  | 10 => (some .int)
  | 11 => (some .boolean)
  | 12 => (some .int)
  | 13 => (some .int)
  | 14 => (some .int)
  | 15 => none
  | 16 => none
  | 17 => none
  | 18 => (some .boolean)
  | 19 => none
  | 20 => none
  | 21 => none
  | 22 => (some (.object "BellTelegraph$Network"))
  | 23 => none
  | 24 => (some (.object "BellTelegraph$Network"))
  | 25 => none
  | 26 => none
  | 27 => none
  | 28 => none
  | 29 => (some .boolean)
  | 30 => (some .int)
  | 31 => (some .int)
  | 32 => (some .int)
  | 33 => none
  | 34 => none
  | 35 => (some .boolean)
  | 36 => (some .boolean)
  | 37 => (some .boolean)
  | 38 => (some .int)
  | 39 => (some .int)
  | 40 => (some .int)
  | 41 => (some .int)
  | 42 => (some .int)
  | 43 => (some .int)
  | 44 => (some .int)
  | 45 => (some .int)
  | 46 => (some .int)
  | 47 => (some .int)
  | 48 => (some .int)
  | 49 => none
  | 50 => none
  | 51 => none
  | 52 => none
  | 53 => none
  | 54 => (some .int)
  | 55 => (some .boolean)
  | 56 => (some .int)
  | 57 => (some .boolean)
  | 58 => (some .int)
  | 59 => (some .int)
  | 60 => (some .int)
  | 61 => (some .int)
  | 62 => none
  | 63 => (some .int)
  | 64 => none
  | 65 => none
  | 66 => (some .int)
  | 67 => (some .int)
  | 68 => (some .int)
  | 69 => (some .int)
  | 70 => (some .int)
  | 71 => (some .int)
  | 72 => (some .int)
  | 73 => (some .int)
  | 74 => (some .int)
  | 75 => (some .int)
  | 76 => (some .int)
  | 77 => (some .int)
  | 78 => (some .int)
  | 79 => (some .boolean)
  | 80 => (some .int)
  | 81 => (some .float)
  | 82 => (some (.object "BellTelegraph$Convent"))
  | 83 => (some (.object "BellTelegraph$Ridge"))
  | 84 => (some .int)
  | 85 => (some .int)
  | 86 => (some .int)
  | 87 => (some .int)
  | 88 => (some .int)
  | 89 => (some .int)
  | 90 => (some .int)
  | 91 => (some .int)
  | 92 => (some .int)
  | 93 => (some (.object "BellTelegraph$Message"))
  | 94 => (some .int)
  | 95 => (some .int)
  | 96 => (some .int)
  | 97 => (some .double)
  | 98 => (some .int)
  | 99 => (some .int)
  | 100 => (some .int)
  | 101 => (some .int)
  | 102 => (some .int)
  | 103 => none
  | 104 => none
  | 105 => (some .char)
  | 106 => (some .int)
  | 107 => (some .int)
  | 108 => (some .int)
  | 109 => (some .int)
  | 110 => (some .boolean)
  | 111 => (some .boolean)
  | 112 => (some .int)
  | 113 => (some .int)
  | 114 => (some .int)
  | 115 => (some .int)
  | 116 => (some .int)
  | 117 => (some .int)
  | 118 => (some .int)
  | 119 => (some .int)
  | 120 => (some .int)
  | 121 => (some .int)
  | 122 => (some .int)
  | 123 => (some .int)
  | 124 => (some .int)
  | 125 => (some .int)
  | 126 => (some .int)
  | 127 => (some .int)
  | 128 => (some .int)
  | 129 => (some .int)
  | 130 => (some .int)
  | 131 => (some .int)
  | 132 => (some .int)
  | 133 => (some .int)
  | 134 => (some .int)
  | 135 => (some .int)
  | 136 => (some .int)
  | 137 => (some .int)
  | 138 => (some .int)
  | 139 => (some .int)
  | 140 => (some .int)
  | 141 => (some .float)
  | 142 => (some .double)
  | 143 => (some .int)
  | 144 => (some .int)
  | 145 => (some .int)
  | 146 => (some .int)
  | 147 => (some .int)
  | 148 => (some .boolean)
  | 149 => (some .boolean)
  | 150 => (some .boolean)
  | 151 => (some .int)
  | 152 => (some .long)
  | 153 => (some .boolean)
  | 154 => (some .boolean)
  | 155 => none
  | 156 => none
  | 157 => none
  | 158 => none
  | 159 => none
  | 160 => none
  | 161 => none
  | 162 => none
  | 163 => none
  | 164 => none
  | 165 => none
  | 166 => none
  | 167 => none
  | 168 => none
  | 169 => none
  | 170 => none
  | 171 => none
  | 172 => none
  | 173 => none
  | 174 => none
  | 175 => none
  | 176 => none
  | 177 => none
  | 178 => none
  | 179 => none
  | 180 => none
  | 181 => none
  | 182 => none
  | 183 => none
  | 184 => none
  | 185 => none
  | 186 => none
  | 187 => none
  | 188 => none
  | 189 => none
  | 190 => none
  | 191 => none
  | 192 => none
  | 193 => none
  | 194 => none
  | 195 => none
  | 196 => none
  | 197 => none
  | 198 => none
  | 199 => none
  | 200 => none
  | 201 => none
  | 202 => none
  | 203 => none
  | 204 => none
  | 205 => none
  | 206 => none
  | 207 => none
  | 208 => none
  | 209 => none
  | 210 => none
  | 211 => none
  | 212 => none
  | 213 => none
  | 214 => none
  | 215 => none
  | 216 => none
  | 217 => none
  | 218 => none
  | 219 => none
  | 220 => none
  | 221 => none
  | 222 => none
  | 223 => none
  | 224 => none
  | 225 => none
  | 226 => none
  | 227 => (some .boolean)
  | 228 => (some .int)
  | 229 => none
  | 230 => (some .int)
  | 231 => (some .boolean)
  | _ => none
def am_rt : Nat → Nat := fun k => match k with
  | 0 => 0
  | 1 => 0
  | 2 => 0
  | 3 => 0
  | 4 => 1
  | 5 => 2
  | 6 => 2
  | 7 => 2
  | 8 => 2
  | 9 => 2
  | 10 => 1
  | 11 => 2
  | 12 => 1
  | 13 => 1
  | 14 => 1
  | 15 => 0
  | 16 => 0
  | 17 => 0
  | 18 => 2
  | 19 => 0
  | 20 => 0
  | 21 => 0
  | 22 => 6
  | 23 => 0
  | 24 => 6
  | 25 => 0
  | 26 => 0
  | 27 => 0
  | 28 => 0
  | 29 => 2
  | 30 => 1
  | 31 => 1
  | 32 => 1
  | 33 => 0
  | 34 => 0
  | 35 => 2
  | 36 => 2
  | 37 => 2
  | 38 => 1
  | 39 => 1
  | 40 => 1
  | 41 => 1
  | 42 => 1
  | 43 => 1
  | 44 => 1
  | 45 => 1
  | 46 => 1
  | 47 => 1
  | 48 => 1
  | 49 => 0
  | 50 => 0
  | 51 => 0
  | 52 => 0
  | 53 => 0
  | 54 => 1
  | 55 => 2
  | 56 => 1
  | 57 => 2
  | 58 => 1
  | 59 => 1
  | 60 => 1
  | 61 => 1
  | 62 => 0
  | 63 => 1
  | 64 => 0
  | 65 => 0
  | 66 => 1
  | 67 => 1
  | 68 => 1
  | 69 => 1
  | 70 => 1
  | 71 => 1
  | 72 => 1
  | 73 => 1
  | 74 => 1
  | 75 => 1
  | 76 => 1
  | 77 => 1
  | 78 => 1
  | 79 => 2
  | 80 => 1
  | 81 => 4
  | 82 => 6
  | 83 => 6
  | 84 => 1
  | 85 => 1
  | 86 => 1
  | 87 => 1
  | 88 => 1
  | 89 => 1
  | 90 => 1
  | 91 => 1
  | 92 => 1
  | 93 => 6
  | 94 => 1
  | 95 => 1
  | 96 => 1
  | 97 => 5
  | 98 => 1
  | 99 => 1
  | 100 => 1
  | 101 => 1
  | 102 => 1
  | 103 => 0
  | 104 => 0
  | 105 => 3
  | 106 => 1
  | 107 => 1
  | 108 => 1
  | 109 => 1
  | 110 => 2
  | 111 => 2
  | 112 => 1
  | 113 => 1
  | 114 => 1
  | 115 => 1
  | 116 => 1
  | 117 => 1
  | 118 => 1
  | 119 => 1
  | 120 => 1
  | 121 => 1
  | 122 => 1
  | 123 => 1
  | 124 => 1
  | 125 => 1
  | 126 => 1
  | 127 => 1
  | 128 => 1
  | 129 => 1
  | 130 => 1
  | 131 => 1
  | 132 => 1
  | 133 => 1
  | 134 => 1
  | 135 => 1
  | 136 => 1
  | 137 => 1
  | 138 => 1
  | 139 => 1
  | 140 => 1
  | 141 => 4
  | 142 => 5
  | 143 => 1
  | 144 => 1
  | 145 => 1
  | 146 => 1
  | 147 => 1
  | 148 => 2
  | 149 => 2
  | 150 => 2
  | 151 => 1
  | 152 => 7
  | 153 => 2
  | 154 => 2
  | 155 => 0
  | 156 => 0
  | 157 => 0
  | 158 => 0
  | 159 => 0
  | 160 => 0
  | 161 => 0
  | 162 => 0
  | 163 => 0
  | 164 => 0
  | 165 => 0
  | 166 => 0
  | 167 => 0
  | 168 => 0
  | 169 => 0
  | 170 => 0
  | 171 => 0
  | 172 => 0
  | 173 => 0
  | 174 => 0
  | 175 => 0
  | 176 => 0
  | 177 => 0
  | 178 => 0
  | 179 => 0
  | 180 => 0
  | 181 => 0
  | 182 => 0
  | 183 => 0
  | 184 => 0
  | 185 => 0
  | 186 => 0
  | 187 => 0
  | 188 => 0
  | 189 => 0
  | 190 => 0
  | 191 => 0
  | 192 => 0
  | 193 => 0
  | 194 => 0
  | 195 => 0
  | 196 => 0
  | 197 => 0
  | 198 => 0
  | 199 => 0
  | 200 => 0
  | 201 => 0
  | 202 => 0
  | 203 => 0
  | 204 => 0
  | 205 => 0
  | 206 => 0
  | 207 => 0
  | 208 => 0
  | 209 => 0
  | 210 => 0
  | 211 => 0
  | 212 => 0
  | 213 => 0
  | 214 => 0
  | 215 => 0
  | 216 => 0
  | 217 => 0
  | 218 => 0
  | 219 => 0
  | 220 => 0
  | 221 => 0
  | 222 => 0
  | 223 => 0
  | 224 => 0
  | 225 => 0
  | 226 => 0
  | 227 => 2
  | 228 => 1
  | 229 => 0
  | 230 => 1
  | 231 => 2
  | _ => 9
def am_na : Nat → Nat := fun k => match k with
  | 0 => 0
  | 1 => 4
  | 2 => 0
  | 3 => 1
  | 4 => 0
  | 5 => 0
  | 6 => 1
  | 7 => 2
  | 8 => 1
  | 9 => 2
  | 10 => 0
  | 11 => 1
  | 12 => 2
  | 13 => 0
  | 14 => 0
  | 15 => 0
  | 16 => 2
  | 17 => 1
  | 18 => 1
  | 19 => 1
  | 20 => 1
  | 21 => 0
  | 22 => 0
  | 23 => 0
  | 24 => 0
  | 25 => 0
  | 26 => 3
  | 27 => 1
  | 28 => 1
  | 29 => 0
  | 30 => 0
  | 31 => 1
  | 32 => 0
  | 33 => 0
  | 34 => 1
  | 35 => 1
  | 36 => 1
  | 37 => 1
  | 38 => 0
  | 39 => 2
  | 40 => 4
  | 41 => 3
  | 42 => 4
  | 43 => 3
  | 44 => 3
  | 45 => 4
  | 46 => 1
  | 47 => 2
  | 48 => 2
  | 49 => 0
  | 50 => 3
  | 51 => 3
  | 52 => 2
  | 53 => 0
  | 54 => 2
  | 55 => 2
  | 56 => 1
  | 57 => 2
  | 58 => 0
  | 59 => 1
  | 60 => 0
  | 61 => 0
  | 62 => 0
  | 63 => 2
  | 64 => 0
  | 65 => 0
  | 66 => 3
  | 67 => 2
  | 68 => 3
  | 69 => 2
  | 70 => 2
  | 71 => 3
  | 72 => 1
  | 73 => 1
  | 74 => 0
  | 75 => 2
  | 76 => 2
  | 77 => 1
  | 78 => 2
  | 79 => 2
  | 80 => 2
  | 81 => 0
  | 82 => 1
  | 83 => 1
  | 84 => 2
  | 85 => 2
  | 86 => 2
  | 87 => 1
  | 88 => 2
  | 89 => 1
  | 90 => 1
  | 91 => 1
  | 92 => 2
  | 93 => 1
  | 94 => 1
  | 95 => 0
  | 96 => 0
  | 97 => 0
  | 98 => 1
  | 99 => 0
  | 100 => 0
  | 101 => 1
  | 102 => 1
  | 103 => 1
  | 104 => 1
  | 105 => 1
  | 106 => 1
  | 107 => 0
  | 108 => 0
  | 109 => 0
  | 110 => 1
  | 111 => 1
  | 112 => 2
  | 113 => 2
  | 114 => 2
  | 115 => 4
  | 116 => 3
  | 117 => 4
  | 118 => 3
  | 119 => 3
  | 120 => 4
  | 121 => 2
  | 122 => 2
  | 123 => 3
  | 124 => 3
  | 125 => 2
  | 126 => 3
  | 127 => 3
  | 128 => 2
  | 129 => 3
  | 130 => 2
  | 131 => 3
  | 132 => 3
  | 133 => 2
  | 134 => 2
  | 135 => 2
  | 136 => 2
  | 137 => 1
  | 138 => 2
  | 139 => 2
  | 140 => 2
  | 141 => 1
  | 142 => 1
  | 143 => 2
  | 144 => 1
  | 145 => 1
  | 146 => 3
  | 147 => 2
  | 148 => 4
  | 149 => 3
  | 150 => 2
  | 151 => 1
  | 152 => 1
  | 153 => 2
  | 154 => 1
  | 155 => 0
  | 156 => 0
  | 157 => 0
  | 158 => 0
  | 159 => 0
  | 160 => 0
  | 161 => 0
  | 162 => 0
  | 163 => 0
  | 164 => 0
  | 165 => 0
  | 166 => 0
  | 167 => 0
  | 168 => 0
  | 169 => 0
  | 170 => 0
  | 171 => 0
  | 172 => 0
  | 173 => 0
  | 174 => 0
  | 175 => 0
  | 176 => 0
  | 177 => 0
  | 178 => 0
  | 179 => 0
  | 180 => 0
  | 181 => 0
  | 182 => 0
  | 183 => 0
  | 184 => 0
  | 185 => 0
  | 186 => 0
  | 187 => 0
  | 188 => 0
  | 189 => 0
  | 190 => 0
  | 191 => 0
  | 192 => 0
  | 193 => 0
  | 194 => 0
  | 195 => 0
  | 196 => 0
  | 197 => 0
  | 198 => 0
  | 199 => 0
  | 200 => 0
  | 201 => 0
  | 202 => 0
  | 203 => 0
  | 204 => 0
  | 205 => 0
  | 206 => 0
  | 207 => 0
  | 208 => 0
  | 209 => 0
  | 210 => 0
  | 211 => 0
  | 212 => 0
  | 213 => 0
  | 214 => 0
  | 215 => 0
  | 216 => 0
  | 217 => 0
  | 218 => 0
  | 219 => 0
  | 220 => 0
  | 221 => 0
  | 222 => 0
  | 223 => 0
  | 224 => 0
  | 225 => 0
  | 226 => 0
  | 227 => 1
  | 228 => 0
  | 229 => 0
  | 230 => 1
  | 231 => 1
  | _ => 0
def am_ini : Nat → Bool := fun k => match k with
  | 0 => true
  | 1 => false
  | 2 => true
  | 3 => false
  | 4 => false
  | 5 => false
  | 6 => false
  | 7 => false
  | 8 => false
  | 9 => false
  | 10 => false
  | 11 => false
  | 12 => false
  | 13 => false
  | 14 => false
  | 15 => true
  | 16 => false
  | 17 => false
  | 18 => false
  | 19 => false
  | 20 => false
  | 21 => true
  | 22 => false
  | 23 => false
  | 24 => false
  | 25 => true
  | 26 => false
  | 27 => false
  | 28 => false
  | 29 => false
  | 30 => false
  | 31 => false
  | 32 => false
  | 33 => true
  | 34 => false
  | 35 => false
  | 36 => false
  | 37 => false
  | 38 => false
  | 39 => false
  | 40 => false
  | 41 => false
  | 42 => false
  | 43 => false
  | 44 => false
  | 45 => false
  | 46 => false
  | 47 => false
  | 48 => false
  | 49 => false
  | 50 => false
  | 51 => false
  | 52 => false
  | 53 => false
  | 54 => false
  | 55 => false
  | 56 => false
  | 57 => false
  | 58 => false
  | 59 => false
  | 60 => false
  | 61 => false
  | 62 => true
  | 63 => false
  | 64 => true
  | 65 => true
  | 66 => false
  | 67 => false
  | 68 => false
  | 69 => false
  | 70 => false
  | 71 => false
  | 72 => false
  | 73 => false
  | 74 => false
  | 75 => false
  | 76 => false
  | 77 => false
  | 78 => false
  | 79 => false
  | 80 => false
  | 81 => false
  | 82 => false
  | 83 => false
  | 84 => false
  | 85 => false
  | 86 => false
  | 87 => false
  | 88 => false
  | 89 => false
  | 90 => false
  | 91 => false
  | 92 => false
  | 93 => false
  | 94 => false
  | 95 => false
  | 96 => false
  | 97 => false
  | 98 => false
  | 99 => false
  | 100 => false
  | 101 => false
  | 102 => false
  | 103 => false
  | 104 => false
  | 105 => false
  | 106 => false
  | 107 => false
  | 108 => false
  | 109 => false
  | 110 => false
  | 111 => false
  | 112 => false
  | 113 => false
  | 114 => false
  | 115 => false
  | 116 => false
  | 117 => false
  | 118 => false
  | 119 => false
  | 120 => false
  | 121 => false
  | 122 => false
  | 123 => false
  | 124 => false
  | 125 => false
  | 126 => false
  | 127 => false
  | 128 => false
  | 129 => false
  | 130 => false
  | 131 => false
  | 132 => false
  | 133 => false
  | 134 => false
  | 135 => false
  | 136 => false
  | 137 => false
  | 138 => false
  | 139 => false
  | 140 => false
  | 141 => false
  | 142 => false
  | 143 => false
  | 144 => false
  | 145 => false
  | 146 => false
  | 147 => false
  | 148 => false
  | 149 => false
  | 150 => false
  | 151 => false
  | 152 => false
  | 153 => false
  | 154 => false
  | 155 => true
  | 156 => true
  | 157 => true
  | 158 => true
  | 159 => true
  | 160 => true
  | 161 => true
  | 162 => true
  | 163 => true
  | 164 => true
  | 165 => true
  | 166 => true
  | 167 => true
  | 168 => true
  | 169 => true
  | 170 => true
  | 171 => true
  | 172 => true
  | 173 => true
  | 174 => true
  | 175 => true
  | 176 => true
  | 177 => true
  | 178 => true
  | 179 => true
  | 180 => true
  | 181 => true
  | 182 => true
  | 183 => true
  | 184 => true
  | 185 => true
  | 186 => true
  | 187 => true
  | 188 => true
  | 189 => true
  | 190 => true
  | 191 => true
  | 192 => true
  | 193 => true
  | 194 => true
  | 195 => true
  | 196 => true
  | 197 => true
  | 198 => true
  | 199 => true
  | 200 => true
  | 201 => true
  | 202 => true
  | 203 => true
  | 204 => true
  | 205 => true
  | 206 => true
  | 207 => true
  | 208 => true
  | 209 => true
  | 210 => true
  | 211 => true
  | 212 => true
  | 213 => true
  | 214 => true
  | 215 => true
  | 216 => true
  | 217 => true
  | 218 => true
  | 219 => true
  | 220 => true
  | 221 => true
  | 222 => true
  | 223 => true
  | 224 => true
  | 225 => true
  | 226 => true
  | 227 => false
  | 228 => false
  | 229 => false
  | 230 => false
  | 231 => false
  | _ => false
def am_hh : Nat → List (Nat × Nat × Nat × Nat) := fun k => match k with
  | 0 => []
  | 1 => []
  | 2 => []
  | 3 => []
  | 4 => []
  | 5 => []
  | 6 => []
  | 7 => []
  | 8 => []
  | 9 => []
  | 10 => []
  | 11 => []
  | 12 => []
  | 13 => []
  | 14 => []
  | 15 => []
  | 16 => []
  | 17 => []
  | 18 => []
  | 19 => []
  | 20 => []
  | 21 => []
  | 22 => []
  | 23 => []
  | 24 => []
  | 25 => []
  | 26 => []
  | 27 => []
  | 28 => []
  | 29 => []
  | 30 => []
  | 31 => []
  | 32 => []
  | 33 => []
  | 34 => []
  | 35 => []
  | 36 => []
  | 37 => []
  | 38 => []
  | 39 => []
  | 40 => []
  | 41 => []
  | 42 => []
  | 43 => []
  | 44 => []
  | 45 => []
  | 46 => []
  | 47 => []
  | 48 => []
  | 49 => []
  | 50 => []
  | 51 => []
  | 52 => []
  | 53 => []
  | 54 => []
  | 55 => []
  | 56 => []
  | 57 => []
  | 58 => []
  | 59 => []
  | 60 => []
  | 61 => []
  | 62 => []
  | 63 => []
  | 64 => []
  | 65 => []
  | 66 => []
  | 67 => []
  | 68 => []
  | 69 => []
  | 70 => []
  | 71 => []
  | 72 => []
  | 73 => []
  | 74 => []
  | 75 => []
  | 76 => []
  | 77 => []
  | 78 => []
  | 79 => []
  | 80 => []
  | 81 => []
  | 82 => []
  | 83 => []
  | 84 => []
  | 85 => []
  | 86 => []
  | 87 => []
  | 88 => []
  | 89 => []
  | 90 => []
  | 91 => []
  | 92 => []
  | 93 => []
  | 94 => []
  | 95 => []
  | 96 => []
  | 97 => []
  | 98 => []
  | 99 => []
  | 100 => []
  | 101 => []
  | 102 => []
  | 103 => []
  | 104 => []
  | 105 => []
  | 106 => []
  | 107 => []
  | 108 => []
  | 109 => []
  | 110 => []
  | 111 => []
  | 112 => []
  | 113 => []
  | 114 => []
  | 115 => [(0, 7, 8, 13)]
  | 116 => [(0, 6, 7, 13)]
  | 117 => [(0, 7, 8, 13)]
  | 118 => [(0, 6, 7, 13)]
  | 119 => [(0, 6, 7, 13)]
  | 120 => [(0, 7, 8, 13)]
  | 121 => [(0, 5, 6, 13)]
  | 122 => [(0, 5, 6, 13)]
  | 123 => [(0, 6, 7, 41), (0, 6, 12, 43)]
  | 124 => [(0, 6, 7, 41), (0, 6, 12, 43)]
  | 125 => [(0, 5, 6, 43)]
  | 126 => [(0, 6, 7, 41), (0, 6, 12, 43)]
  | 127 => [(0, 6, 7, 41)]
  | 128 => [(0, 5, 6, 41)]
  | 129 => [(0, 6, 7, 41), (0, 6, 12, 63)]
  | 130 => [(0, 5, 6, 63)]
  | 131 => [(0, 6, 7, 41), (0, 6, 12, 63)]
  | 132 => [(0, 6, 7, 41), (0, 6, 12, 43)]
  | 133 => [(0, 5, 6, 41), (0, 5, 11, 63)]
  | 134 => [(0, 5, 6, 41), (0, 5, 11, 63)]
  | 135 => [(0, 5, 6, 63)]
  | 136 => [(0, 5, 6, 88)]
  | 137 => [(0, 4, 5, 43), (0, 4, 10, 13)]
  | 138 => [(0, 5, 6, 43), (0, 5, 11, 63)]
  | 139 => [(0, 5, 6, 41)]
  | 140 => [(0, 5, 6, 41)]
  | 141 => [(0, 4, 5, 108)]
  | 142 => [(0, 4, 5, 108)]
  | 143 => [(0, 5, 6, 43)]
  | 144 => [(0, 4, 5, 88)]
  | 145 => [(0, 4, 5, 88)]
  | 146 => [(0, 14, 15, 41), (0, 14, 20, 63)]
  | 147 => []
  | 148 => []
  | 149 => []
  | 150 => []
  | 151 => []
  | 152 => []
  | 153 => []
  | 154 => []
  | 155 => []
  | 156 => []
  | 157 => []
  | 158 => []
  | 159 => []
  | 160 => []
  | 161 => []
  | 162 => []
  | 163 => []
  | 164 => []
  | 165 => []
  | 166 => []
  | 167 => []
  | 168 => []
  | 169 => []
  | 170 => []
  | 171 => []
  | 172 => []
  | 173 => []
  | 174 => []
  | 175 => []
  | 176 => []
  | 177 => []
  | 178 => []
  | 179 => []
  | 180 => []
  | 181 => []
  | 182 => []
  | 183 => []
  | 184 => []
  | 185 => []
  | 186 => []
  | 187 => []
  | 188 => []
  | 189 => []
  | 190 => []
  | 191 => []
  | 192 => []
  | 193 => []
  | 194 => []
  | 195 => []
  | 196 => []
  | 197 => []
  | 198 => []
  | 199 => []
  | 200 => []
  | 201 => []
  | 202 => []
  | 203 => []
  | 204 => []
  | 205 => []
  | 206 => []
  | 207 => []
  | 208 => []
  | 209 => []
  | 210 => []
  | 211 => []
  | 212 => []
  | 213 => []
  | 214 => []
  | 215 => []
  | 216 => []
  | 217 => []
  | 218 => []
  | 219 => []
  | 220 => []
  | 221 => []
  | 222 => []
  | 223 => []
  | 224 => []
  | 225 => []
  | 226 => []
  | 227 => []
  | 228 => []
  | 229 => []
  | 230 => []
  | 231 => []
  | _ => []
def am_tr (z : Nat) : Bool := (am_hh z).isEmpty
def am_hs : Nat → List (Nat × Nat × Nat × Nat × Nat) := fun k => match k with
  | 0 => []
  | 1 => []
  | 2 => []
  | 3 => []
  | 4 => []
  | 5 => []
  | 6 => []
  | 7 => []
  | 8 => []
  | 9 => []
  | 10 => []
  | 11 => []
  | 12 => []
  | 13 => []
  | 14 => []
  | 15 => []
  | 16 => []
  | 17 => []
  | 18 => []
  | 19 => []
  | 20 => []
  | 21 => []
  | 22 => []
  | 23 => []
  | 24 => []
  | 25 => []
  | 26 => []
  | 27 => []
  | 28 => []
  | 29 => []
  | 30 => []
  | 31 => []
  | 32 => []
  | 33 => []
  | 34 => []
  | 35 => []
  | 36 => []
  | 37 => []
  | 38 => []
  | 39 => []
  | 40 => []
  | 41 => []
  | 42 => []
  | 43 => []
  | 44 => []
  | 45 => []
  | 46 => []
  | 47 => []
  | 48 => []
  | 49 => []
  | 50 => []
  | 51 => []
  | 52 => []
  | 53 => []
  | 54 => []
  | 55 => []
  | 56 => []
  | 57 => []
  | 58 => []
  | 59 => []
  | 60 => []
  | 61 => []
  | 62 => []
  | 63 => []
  | 64 => []
  | 65 => []
  | 66 => []
  | 67 => []
  | 68 => []
  | 69 => []
  | 70 => []
  | 71 => []
  | 72 => []
  | 73 => []
  | 74 => []
  | 75 => []
  | 76 => []
  | 77 => []
  | 78 => []
  | 79 => []
  | 80 => []
  | 81 => []
  | 82 => []
  | 83 => []
  | 84 => []
  | 85 => []
  | 86 => []
  | 87 => []
  | 88 => []
  | 89 => []
  | 90 => []
  | 91 => []
  | 92 => []
  | 93 => []
  | 94 => []
  | 95 => []
  | 96 => []
  | 97 => []
  | 98 => []
  | 99 => []
  | 100 => []
  | 101 => []
  | 102 => []
  | 103 => []
  | 104 => []
  | 105 => []
  | 106 => []
  | 107 => []
  | 108 => []
  | 109 => []
  | 110 => []
  | 111 => []
  | 112 => []
  | 113 => []
  | 114 => []
  | 115 => [(0, 7, 0, 10, 4)]
  | 116 => [(0, 6, 0, 8, 3)]
  | 117 => [(0, 7, 0, 10, 4)]
  | 118 => [(0, 6, 0, 8, 3)]
  | 119 => [(0, 6, 0, 8, 3)]
  | 120 => [(0, 7, 0, 10, 4)]
  | 121 => [(0, 5, 0, 7, 2)]
  | 122 => [(0, 5, 0, 7, 2)]
  | 123 => [(0, 6, 1, 8, 3), (0, 6, 2, 13, 3)]
  | 124 => [(0, 6, 1, 8, 3), (0, 6, 2, 13, 3)]
  | 125 => [(0, 5, 2, 7, 2)]
  | 126 => [(0, 6, 1, 8, 3), (0, 6, 2, 13, 3)]
  | 127 => [(0, 6, 1, 8, 3)]
  | 128 => [(0, 5, 1, 7, 2)]
  | 129 => [(0, 6, 1, 8, 3), (0, 6, 3, 13, 3)]
  | 130 => [(0, 5, 3, 7, 2)]
  | 131 => [(0, 6, 1, 8, 3), (0, 6, 3, 13, 3)]
  | 132 => [(0, 6, 1, 8, 3), (0, 6, 2, 13, 3)]
  | 133 => [(0, 5, 1, 7, 2), (0, 5, 3, 12, 2)]
  | 134 => [(0, 5, 1, 7, 2), (0, 5, 3, 12, 2)]
  | 135 => [(0, 5, 3, 7, 2)]
  | 136 => [(0, 5, 4, 7, 2)]
  | 137 => [(0, 4, 2, 6, 1), (0, 4, 0, 11, 1)]
  | 138 => [(0, 5, 2, 7, 2), (0, 5, 3, 12, 2)]
  | 139 => [(0, 5, 1, 7, 2)]
  | 140 => [(0, 5, 1, 7, 2)]
  | 141 => [(0, 4, 5, 6, 1)]
  | 142 => [(0, 4, 5, 6, 1)]
  | 143 => [(0, 5, 2, 7, 2)]
  | 144 => [(0, 4, 4, 6, 1)]
  | 145 => [(0, 4, 4, 6, 1)]
  | 146 => [(0, 14, 1, 16, 3), (0, 14, 3, 21, 3)]
  | 147 => []
  | 148 => []
  | 149 => []
  | 150 => []
  | 151 => []
  | 152 => []
  | 153 => []
  | 154 => []
  | 155 => []
  | 156 => []
  | 157 => []
  | 158 => []
  | 159 => []
  | 160 => []
  | 161 => []
  | 162 => []
  | 163 => []
  | 164 => []
  | 165 => []
  | 166 => []
  | 167 => []
  | 168 => []
  | 169 => []
  | 170 => []
  | 171 => []
  | 172 => []
  | 173 => []
  | 174 => []
  | 175 => []
  | 176 => []
  | 177 => []
  | 178 => []
  | 179 => []
  | 180 => []
  | 181 => []
  | 182 => []
  | 183 => []
  | 184 => []
  | 185 => []
  | 186 => []
  | 187 => []
  | 188 => []
  | 189 => []
  | 190 => []
  | 191 => []
  | 192 => []
  | 193 => []
  | 194 => []
  | 195 => []
  | 196 => []
  | 197 => []
  | 198 => []
  | 199 => []
  | 200 => []
  | 201 => []
  | 202 => []
  | 203 => []
  | 204 => []
  | 205 => []
  | 206 => []
  | 207 => []
  | 208 => []
  | 209 => []
  | 210 => []
  | 211 => []
  | 212 => []
  | 213 => []
  | 214 => []
  | 215 => []
  | 216 => []
  | 217 => []
  | 218 => []
  | 219 => []
  | 220 => []
  | 221 => []
  | 222 => []
  | 223 => []
  | 224 => []
  | 225 => []
  | 226 => []
  | 227 => []
  | 228 => []
  | 229 => []
  | 230 => []
  | 231 => []
  | _ => []
def am_hf (t : List (Nat × Nat × Nat × Nat × Nat)) (pc E : Nat) : Option (Nat × Nat) := match t with
  | [] => none
  | q :: t => if q.1 ≤ pc ∧ pc < q.2.1 ∧ q.2.2.1 = E then some q.2.2.2 else am_hf t pc E
def am_hd (z pc E : Nat) : Option (Nat × Nat) := am_hf (am_hs z) pc E
abbrev am_chz : Nat := 153
abbrev am_rdz : Nat := 147
def am_fi (t : List (Nat × Instr)) (pc : Nat) : Option Instr := match t with
  | [] => none
  | q :: t => if q.1 = pc then some q.2 else am_fi t pc
def am_cd (z pc : Nat) : Option Instr := am_fi (am_code z) pc
end
section
/-! THE TABLES AGAINST THE STATEMENT'S WORDS (by gens.py) -/
def am_gw (w : Cond) : Bool := goodWord w || (match w with
  | .castable .. => true
  | .methodLinkNest .. => true
  | .arrayOver (.object _) => true
  | .declares _ => true
  | _ => false)
def am_W : List Cond := lw_tbl.filter am_gw
def am_at (i : Nat) (w : Cond) : Bool := decide (lw_tbl[i]? = some w) && am_gw w
theorem am_at_in {i : Nat} {w : Cond} (h : am_at i w = true) : w ∈ am_W := by
  simp only [am_at, Bool.and_eq_true, decide_eq_true_eq] at h
  exact List.mem_filter.mpr ⟨List.mem_of_getElem? h.1, h.2⟩
def am_al2 {α : Type} (f : α → Nat → Bool) : List α → List Nat → Bool
  | [], _ => true
  | a :: l, i :: is => f a i && am_al2 f l is
  | _ :: _, [] => false
theorem am_al2_in {α : Type} {f : α → Nat → Bool} : ∀ {l : List α} {is : List Nat}, am_al2 f l is = true → ∀ a ∈ l, ∃ i, f a i = true
  | [], _, _, _, h => by cases h
  | _ :: _, [], h, _, _ => by cases h
  | b :: l, i :: is, h, a, ha => by
    simp only [am_al2, Bool.and_eq_true] at h
    rcases List.mem_cons.mp ha with rfl | ha
    · exact ⟨i, h.1⟩
    · exact am_al2_in h.2 a ha
theorem am_look_in {β : Type} : ∀ {t : List (Nat × Nat × β)} {a b : Nat} {v : β}, am_look t a b = some v → (a, b, v) ∈ t
  | [], _, _, _, h => by cases h
  | q :: t, a, b, v, h => by
    unfold am_look at h
    split at h
    · rename_i hq
      obtain ⟨q1, q2, q3⟩ := q
      obtain ⟨rfl, rfl⟩ := hq
      cases h
      exact List.mem_cons_self
    · exact List.mem_cons_of_mem _ (am_look_in h)
def am_flw (q : Nat × Nat × Nat × Nat) (i : Nat) : Bool := am_at i (.fieldLink (am_cR q.1) q.2.1 (am_cR q.2.2.1) (am_cT q.2.2.1 q.2.2.2).2.1 (am_cT q.2.2.1 q.2.2.2).2.2.1) && decide (q.2.2.2 < am_cN q.2.2.1) && decide (q.2.2.1 < 10) && decide ((am_cT q.2.2.1 q.2.2.2).1 = am_cR q.2.2.1)
theorem am_fl_ok : am_al2 am_flw am_fl_t [260, 262, 264, 266, 286, 289, 287, 293, 291, 88, 68, 71, 74, 77, 80, 83, 86, 225, 226, 227, 152, 127, 129, 132, 135, 138, 141, 144, 147, 149, 180, 182, 184, 188, 192, 194, 176, 178, 113, 115, 186, 190, 261, 263, 265, 267, 75, 78, 73, 150, 153, 136, 133, 82, 145, 148, 85, 142, 130, 70, 140, 242, 244, 306, 307, 308, 310, 311, 312, 313, 314, 315, 246, 69, 72, 76, 79, 87, 81, 84, 114, 116, 185, 177, 179, 181, 183, 128, 131, 134, 151, 143, 146, 137, 139, 154, 89, 191, 193, 189, 187, 288, 292, 290, 243, 245, 316, 228, 309] = true := by decide +kernel
def am_clw (ci : Nat) (l : List Nat) : Bool := am_al2 (fun w i => am_at i w) (u_ws (am_cR ci) (am_cT ci) (am_cN ci)) l
theorem am_cl_ok0 : am_clw 0 [268, 270, 272, 274] = true := by decide +kernel
theorem am_cl_ok1 : am_clw 1 [294, 296, 298, 300, 302] = true := by decide +kernel
theorem am_cl_ok2 : am_clw 2 [90, 92, 94, 96, 98, 100, 102, 104] = true := by decide +kernel
theorem am_cl_ok3 : am_clw 3 [229, 231, 233] = true := by decide +kernel
theorem am_cl_ok4 : am_clw 4 [155, 157, 159, 161, 163, 165, 167, 169, 171, 173] = true := by decide +kernel
theorem am_cl_ok5 : am_clw 5 [195, 197, 199, 201, 203, 205, 207, 209, 211, 213] = true := by decide +kernel
theorem am_cl_ok6 : am_clw 6 [247, 249, 251] = true := by decide +kernel
theorem am_cl_ok7 : am_clw 7 [117, 119] = true := by decide +kernel
theorem am_cl_ok8 : am_clw 8 [317, 319, 321, 323, 325, 327, 329, 331, 333, 335, 337] = true := by decide +kernel
theorem am_cl_ok9 : am_clw 9 [670, 672, 1378, 1380] = true := by decide +kernel
theorem am_cl_in : ∀ ci, ci < 10 → ∀ w ∈ u_ws (am_cR ci) (am_cT ci) (am_cN ci), w ∈ am_W := by
  have key : ∀ ci l, am_clw ci l = true → ∀ w ∈ u_ws (am_cR ci) (am_cT ci) (am_cN ci), w ∈ am_W := by
    intro ci l h w hw
    obtain ⟨i, hi⟩ := am_al2_in h w hw
    exact am_at_in hi
  intro ci h
  match ci, h with
  | 0, _ => exact key _ _ am_cl_ok0
  | 1, _ => exact key _ _ am_cl_ok1
  | 2, _ => exact key _ _ am_cl_ok2
  | 3, _ => exact key _ _ am_cl_ok3
  | 4, _ => exact key _ _ am_cl_ok4
  | 5, _ => exact key _ _ am_cl_ok5
  | 6, _ => exact key _ _ am_cl_ok6
  | 7, _ => exact key _ _ am_cl_ok7
  | 8, _ => exact key _ _ am_cl_ok8
  | 9, _ => exact key _ _ am_cl_ok9
  | n + 10, h => exact absurd h (by omega)
theorem am_cY_ok : ∀ ci, ci < 10 → ∀ k, k < am_cN ci → parseFieldDescriptor (am_cT ci k).2.2.1 = some (am_cY ci k) := by
  intro ci h
  match ci, h with
  | 0, _ => exact tyX0_ok
  | 1, _ => exact tyX1_ok
  | 2, _ => exact tyX2_ok
  | 3, _ => exact tyX3_ok
  | 4, _ => exact tyX4_ok
  | 5, _ => exact tyX5_ok
  | 6, _ => exact tyX6_ok
  | 7, _ => exact tyX7_ok
  | 8, _ => exact tyX8_ok
  | 9, _ => exact tyJ0_ok
  | n + 10, h => exact absurd h (by omega)
theorem am_nm_ok : ∀ ci, ci < 10 → ∀ a, a < am_cN ci → ∀ b, b < am_cN ci → a ≠ b → (am_cT ci a).2.1 ≠ (am_cT ci b).2.1 := by
  intro ci h
  match ci, h with
  | 0, _ => exact nmX0
  | 1, _ => exact nmX1
  | 2, _ => exact nmX2
  | 3, _ => exact nmX3
  | 4, _ => exact nmX4
  | 5, _ => exact nmX5
  | 6, _ => exact nmX6
  | 7, _ => exact nmX7
  | 8, _ => exact nmX8
  | 9, _ => exact nmJ0
  | n + 10, h => exact absurd h (by omega)
theorem am_cl_at : ∀ ci, ci < 10 → am_cl[ci]? = some (am_cR ci, am_cT ci, am_cN ci) := by
  intro ci h
  match ci, h with
  | 0, _ => rfl
  | 1, _ => rfl
  | 2, _ => rfl
  | 3, _ => rfl
  | 4, _ => rfl
  | 5, _ => rfl
  | 6, _ => rfl
  | 7, _ => rfl
  | 8, _ => rfl
  | 9, _ => rfl
  | n + 10, h => exact absurd h (by omega)
theorem am_ins_ok : am_al2 (fun ci i => am_at i (.instantiable (am_cR ci) (am_cN ci))) (List.range 10) [255, 278, 63, 217, 122, 52, 237, 108, 44, 668] = true := by decide +kernel
theorem am_init_ok : am_al2 (fun ci i => am_at i (.initialized (am_cR ci))) (List.range 11) [17, 18, 12, 15, 14, 11, 16, 13, 10, 29, 9] = true := by decide +kernel
end
section
def am_cw (z : Nat) : Cond := if am_tr z = true then .code (am_y z) (am_by z) (am_mL z) (am_ret z) else .codeWith (am_y z) (am_by z) (am_mL z) (am_ret z) (am_hh z)
/-- 0 static, 1 by its class, 2 a constructor -/
def am_ks : Nat → Nat := fun k => match k with
  | 0 => 2
  | 1 => 1
  | 2 => 2
  | 3 => 1
  | 4 => 1
  | 5 => 1
  | 6 => 1
  | 7 => 1
  | 8 => 1
  | 9 => 1
  | 10 => 1
  | 11 => 1
  | 12 => 1
  | 13 => 1
  | 14 => 1
  | 15 => 2
  | 16 => 1
  | 17 => 1
  | 18 => 1
  | 19 => 1
  | 20 => 1
  | 21 => 2
  | 22 => 1
  | 23 => 1
  | 24 => 1
  | 25 => 2
  | 26 => 1
  | 27 => 1
  | 28 => 1
  | 29 => 1
  | 30 => 1
  | 31 => 1
  | 32 => 1
  | 33 => 2
  | 34 => 1
  | 35 => 1
  | 36 => 1
  | 37 => 1
  | 38 => 1
  | 39 => 1
  | 40 => 1
  | 41 => 1
  | 42 => 1
  | 43 => 1
  | 44 => 1
  | 45 => 1
  | 46 => 1
  | 47 => 1
  | 48 => 1
  | 49 => 1
  | 50 => 1
  | 51 => 1
  | 52 => 1
  | 53 => 1
  | 54 => 1
  | 55 => 1
  | 56 => 1
  | 57 => 1
  | 58 => 1
  | 59 => 1
  | 60 => 1
  | 61 => 1
  | 62 => 2
  | 63 => 1
  | 64 => 2
  | 65 => 2
  | 66 => 1
  | 67 => 1
  | 68 => 1
  | 69 => 1
  | 70 => 1
  | 71 => 1
  | 72 => 1
  | 73 => 1
  | 74 => 1
  | 75 => 1
  | 76 => 1
  | 77 => 1
  | 78 => 1
  | 79 => 1
  | 80 => 1
  | 81 => 1
  | 82 => 1
  | 83 => 1
  | 84 => 1
  | 85 => 1
  | 86 => 1
  | 87 => 1
  | 88 => 1
  | 89 => 1
  | 90 => 1
  | 91 => 1
  | 92 => 1
  | 93 => 1
  | 94 => 1
  | 95 => 1
  | 96 => 1
  | 97 => 1
  | 98 => 1
  | 99 => 1
  | 100 => 1
  | 101 => 1
  | 102 => 1
  | 103 => 1
  | 104 => 1
  | 105 => 1
  | 106 => 1
  | 107 => 1
  | 108 => 1
  | 109 => 1
  | 110 => 0
  | 111 => 0
  | 112 => 0
  | 113 => 0
  | 114 => 0
  | 115 => 0
  | 116 => 0
  | 117 => 0
  | 118 => 0
  | 119 => 0
  | 120 => 0
  | 121 => 0
  | 122 => 0
  | 123 => 0
  | 124 => 0
  | 125 => 0
  | 126 => 0
  | 127 => 0
  | 128 => 0
  | 129 => 0
  | 130 => 0
  | 131 => 0
  | 132 => 0
  | 133 => 0
  | 134 => 0
  | 135 => 0
  | 136 => 0
  | 137 => 0
  | 138 => 0
  | 139 => 0
  | 140 => 0
  | 141 => 0
  | 142 => 0
  | 143 => 0
  | 144 => 0
  | 145 => 0
  | 146 => 0
  | 147 => 0
  | 148 => 0
  | 149 => 0
  | 150 => 0
  | 151 => 0
  | 152 => 0
  | 153 => 0
  | 154 => 0
  | 155 => 2
  | 156 => 2
  | 157 => 2
  | 158 => 2
  | 159 => 2
  | 160 => 2
  | 161 => 2
  | 162 => 2
  | 163 => 2
  | 164 => 2
  | 165 => 2
  | 166 => 2
  | 167 => 2
  | 168 => 2
  | 169 => 2
  | 170 => 2
  | 171 => 2
  | 172 => 2
  | 173 => 2
  | 174 => 2
  | 175 => 2
  | 176 => 2
  | 177 => 2
  | 178 => 2
  | 179 => 2
  | 180 => 2
  | 181 => 2
  | 182 => 2
  | 183 => 2
  | 184 => 2
  | 185 => 2
  | 186 => 2
  | 187 => 2
  | 188 => 2
  | 189 => 2
  | 190 => 2
  | 191 => 2
  | 192 => 2
  | 193 => 2
  | 194 => 2
  | 195 => 2
  | 196 => 2
  | 197 => 2
  | 198 => 2
  | 199 => 2
  | 200 => 2
  | 201 => 2
  | 202 => 2
  | 203 => 2
  | 204 => 2
  | 205 => 2
  | 206 => 2
  | 207 => 2
  | 208 => 2
  | 209 => 2
  | 210 => 2
  | 211 => 2
  | 212 => 2
  | 213 => 2
  | 214 => 2
  | 215 => 2
  | 216 => 2
  | 217 => 2
  | 218 => 2
  | 219 => 2
  | 220 => 2
  | 221 => 2
  | 222 => 2
  | 223 => 2
  | 224 => 2
  | 225 => 2
  | 226 => 2
  | 227 => 0
  | 228 => 1
  | 229 => 1
  | 230 => 1
  | 231 => 0
  | _ => 9
def am_zw (z : Nat) (q : Nat × Nat × Nat) : Bool := am_at q.1 (am_cw z) && (match am_ks z with
  | 0 => am_at q.2.1 (.static (am_y z))
  | 1 => am_at q.2.1 (.instanceMethod (am_y z)) && am_at q.2.2 (.selects (am_cR (am_own z)) (am_y z) (am_y z))
  | 2 => am_at q.2.1 (.instanceMethod (am_y z)) && decide ((am_y z).name = "<init>")
  | _ => false)
  && decide ((am_y z).cls = am_cR (am_own z)) && decide ((am_y z).cls ≠ "java/lang/invoke/MethodHandle") && decide ((am_y z).cls ≠ "java/lang/invoke/VarHandle") && decide ((parseMethodDescriptor (am_y z).desc).map (fun d => d.parameters.length) = some (am_na z)) && plainName (am_y z).cls && decide (am_own z < 11) && (am_ini z == (am_ks z == 2)) && decide (am_mL z ≤ 12) && decide (am_na z + (if am_ks z = 0 then 0 else 1) ≤ am_mL z)
  && (match am_rt z, am_ret z with
  | 0, none => true
  | 1, some .int => true
  | 2, some .boolean => true
  | 3, some .char => true
  | 4, some .float => true
  | 5, some .double => true
  | 6, some (.object _) => true
  | 7, some .long => true
  | _, _ => false)
/-- the methods that are called: all but the law -/
abbrev am_zk (z : Nat) : Prop := z < 232 ∧ z ≠ 227
theorem am_zw0 : am_zw 0 (258, 257, 0) = true := by decide +kernel
theorem am_zw1 : am_zw 1 (386, 384, 385) = true := by decide +kernel
theorem am_zw2 : am_zw 2 (281, 280, 0) = true := by decide +kernel
theorem am_zw3 : am_zw 3 (835, 833, 834) = true := by decide +kernel
theorem am_zw4 : am_zw 4 (846, 844, 845) = true := by decide +kernel
theorem am_zw5 : am_zw 5 (850, 848, 849) = true := by decide +kernel
theorem am_zw6 : am_zw 6 (858, 856, 857) = true := by decide +kernel
theorem am_zw7 : am_zw 7 (875, 873, 874) = true := by decide +kernel
theorem am_zw8 : am_zw 8 (883, 881, 882) = true := by decide +kernel
theorem am_zw9 : am_zw 9 (887, 885, 886) = true := by decide +kernel
theorem am_zw10 : am_zw 10 (854, 852, 853) = true := by decide +kernel
theorem am_zw11 : am_zw 11 (866, 864, 865) = true := by decide +kernel
theorem am_zw12 : am_zw 12 (862, 860, 861) = true := by decide +kernel
theorem am_zw13 : am_zw 13 (879, 877, 878) = true := by decide +kernel
theorem am_zw14 : am_zw 14 (870, 868, 869) = true := by decide +kernel
theorem am_zw15 : am_zw 15 (66, 65, 0) = true := by decide +kernel
theorem am_zw16 : am_zw 16 (413, 411, 412) = true := by decide +kernel
theorem am_zw17 : am_zw 17 (359, 357, 358) = true := by decide +kernel
theorem am_zw18 : am_zw 18 (496, 494, 495) = true := by decide +kernel
theorem am_zw19 : am_zw 19 (464, 462, 463) = true := by decide +kernel
theorem am_zw20 : am_zw 20 (476, 474, 475) = true := by decide +kernel
theorem am_zw21 : am_zw 21 (220, 219, 0) = true := by decide +kernel
theorem am_zw22 : am_zw 22 (394, 392, 393) = true := by decide +kernel
theorem am_zw23 : am_zw 23 (616, 614, 615) = true := by decide +kernel
theorem am_zw24 : am_zw 24 (952, 950, 951) = true := by decide +kernel
theorem am_zw25 : am_zw 25 (125, 124, 0) = true := by decide +kernel
theorem am_zw26 : am_zw 26 (456, 454, 455) = true := by decide +kernel
theorem am_zw27 : am_zw 27 (367, 365, 366) = true := by decide +kernel
theorem am_zw28 : am_zw 28 (460, 458, 459) = true := by decide +kernel
theorem am_zw29 : am_zw 29 (529, 527, 528) = true := by decide +kernel
theorem am_zw30 : am_zw 30 (516, 514, 515) = true := by decide +kernel
theorem am_zw31 : am_zw 31 (500, 498, 499) = true := by decide +kernel
theorem am_zw32 : am_zw 32 (731, 729, 730) = true := by decide +kernel
theorem am_zw33 : am_zw 33 (55, 54, 0) = true := by decide +kernel
theorem am_zw34 : am_zw 34 (355, 353, 354) = true := by decide +kernel
theorem am_zw35 : am_zw 35 (428, 426, 427) = true := by decide +kernel
theorem am_zw36 : am_zw 36 (439, 437, 438) = true := by decide +kernel
theorem am_zw37 : am_zw 37 (472, 470, 471) = true := by decide +kernel
theorem am_zw38 : am_zw 38 (488, 486, 487) = true := by decide +kernel
theorem am_zw39 : am_zw 39 (398, 396, 397) = true := by decide +kernel
theorem am_zw40 : am_zw 40 (402, 400, 401) = true := by decide +kernel
theorem am_zw41 : am_zw 41 (417, 415, 416) = true := by decide +kernel
theorem am_zw42 : am_zw 42 (424, 422, 423) = true := by decide +kernel
theorem am_zw43 : am_zw 43 (435, 433, 434) = true := by decide +kernel
theorem am_zw44 : am_zw 44 (443, 441, 442) = true := by decide +kernel
theorem am_zw45 : am_zw 45 (447, 445, 446) = true := by decide +kernel
theorem am_zw46 : am_zw 46 (451, 449, 450) = true := by decide +kernel
theorem am_zw47 : am_zw 47 (468, 466, 467) = true := by decide +kernel
theorem am_zw48 : am_zw 48 (480, 478, 479) = true := by decide +kernel
theorem am_zw49 : am_zw 49 (484, 482, 483) = true := by decide +kernel
theorem am_zw50 : am_zw 50 (512, 510, 511) = true := by decide +kernel
theorem am_zw51 : am_zw 51 (533, 531, 532) = true := by decide +kernel
theorem am_zw52 : am_zw 52 (537, 535, 536) = true := by decide +kernel
theorem am_zw53 : am_zw 53 (541, 539, 540) = true := by decide +kernel
theorem am_zw54 : am_zw 54 (508, 506, 507) = true := by decide +kernel
theorem am_zw55 : am_zw 55 (504, 502, 503) = true := by decide +kernel
theorem am_zw56 : am_zw 56 (803, 801, 802) = true := by decide +kernel
theorem am_zw57 : am_zw 57 (807, 805, 806) = true := by decide +kernel
theorem am_zw58 : am_zw 58 (929, 927, 928) = true := by decide +kernel
theorem am_zw59 : am_zw 59 (933, 931, 932) = true := by decide +kernel
theorem am_zw60 : am_zw 60 (937, 935, 936) = true := by decide +kernel
theorem am_zw61 : am_zw 61 (941, 939, 940) = true := by decide +kernel
theorem am_zw62 : am_zw 62 (240, 239, 0) = true := by decide +kernel
theorem am_zw63 : am_zw 63 (409, 407, 408) = true := by decide +kernel
theorem am_zw64 : am_zw 64 (111, 110, 0) = true := by decide +kernel
theorem am_zw65 : am_zw 65 (47, 46, 0) = true := by decide +kernel
theorem am_zw66 : am_zw 66 (382, 380, 381) = true := by decide +kernel
theorem am_zw67 : am_zw 67 (623, 621, 622) = true := by decide +kernel
theorem am_zw68 : am_zw 68 (1067, 1065, 1066) = true := by decide +kernel
theorem am_zw69 : am_zw 69 (1060, 1058, 1059) = true := by decide +kernel
theorem am_zw70 : am_zw 70 (1155, 1153, 1154) = true := by decide +kernel
theorem am_zw71 : am_zw 71 (630, 628, 629) = true := by decide +kernel
theorem am_zw72 : am_zw 72 (1162, 1160, 1161) = true := by decide +kernel
theorem am_zw73 : am_zw 73 (637, 635, 636) = true := by decide +kernel
theorem am_zw74 : am_zw 74 (390, 389, 0) = true := by decide +kernel
theorem am_zw75 : am_zw 75 (678, 676, 677) = true := by decide +kernel
theorem am_zw76 : am_zw 76 (1109, 1107, 1108) = true := by decide +kernel
theorem am_zw77 : am_zw 77 (1129, 1127, 1128) = true := by decide +kernel
theorem am_zw78 : am_zw 78 (768, 766, 767) = true := by decide +kernel
theorem am_zw79 : am_zw 79 (966, 964, 965) = true := by decide +kernel
theorem am_zw80 : am_zw 80 (1121, 1119, 1120) = true := by decide +kernel
theorem am_zw81 : am_zw 81 (1091, 1089, 1090) = true := by decide +kernel
theorem am_zw82 : am_zw 82 (682, 681, 2) = true := by decide +kernel
theorem am_zw83 : am_zw 83 (1113, 1112, 8) = true := by decide +kernel
theorem am_zw84 : am_zw 84 (772, 771, 4) = true := by decide +kernel
theorem am_zw85 : am_zw 85 (722, 720, 721) = true := by decide +kernel
theorem am_zw86 : am_zw 86 (1137, 1135, 1136) = true := by decide +kernel
theorem am_zw87 : am_zw 87 (1144, 1142, 1143) = true := by decide +kernel
theorem am_zw88 : am_zw 88 (739, 737, 738) = true := by decide +kernel
theorem am_zw89 : am_zw 89 (761, 759, 760) = true := by decide +kernel
theorem am_zw90 : am_zw 90 (780, 778, 779) = true := by decide +kernel
theorem am_zw91 : am_zw 91 (792, 790, 791) = true := by decide +kernel
theorem am_zw92 : am_zw 92 (784, 783, 5) = true := by decide +kernel
theorem am_zw93 : am_zw 93 (726, 725, 3) = true := by decide +kernel
theorem am_zw94 : am_zw 94 (799, 797, 798) = true := by decide +kernel
theorem am_zw95 : am_zw 95 (343, 341, 342) = true := by decide +kernel
theorem am_zw96 : am_zw 96 (917, 915, 916) = true := by decide +kernel
theorem am_zw97 : am_zw 97 (908, 906, 907) = true := by decide +kernel
theorem am_zw98 : am_zw 98 (816, 814, 815) = true := by decide +kernel
theorem am_zw99 : am_zw 99 (842, 840, 841) = true := by decide +kernel
theorem am_zw100 : am_zw 100 (347, 345, 346) = true := by decide +kernel
theorem am_zw101 : am_zw 101 (977, 975, 976) = true := by decide +kernel
theorem am_zw102 : am_zw 102 (987, 985, 986) = true := by decide +kernel
theorem am_zw103 : am_zw 103 (991, 990, 6) = true := by decide +kernel
theorem am_zw104 : am_zw 104 (995, 994, 7) = true := by decide +kernel
theorem am_zw105 : am_zw 105 (1012, 1010, 1011) = true := by decide +kernel
theorem am_zw106 : am_zw 106 (925, 923, 924) = true := by decide +kernel
theorem am_zw107 : am_zw 107 (948, 946, 947) = true := by decide +kernel
theorem am_zw108 : am_zw 108 (351, 349, 350) = true := by decide +kernel
theorem am_zw109 : am_zw 109 (959, 957, 958) = true := by decide +kernel
theorem am_zw110 : am_zw 110 (405, 404, 0) = true := by decide +kernel
theorem am_zw111 : am_zw 111 (431, 430, 0) = true := by decide +kernel
theorem am_zw112 : am_zw 112 (544, 543, 0) = true := by decide +kernel
theorem am_zw113 : am_zw 113 (371, 370, 0) = true := by decide +kernel
theorem am_zw114 : am_zw 114 (374, 373, 0) = true := by decide +kernel
theorem am_zw115 : am_zw 115 (377, 376, 0) = true := by decide +kernel
theorem am_zw116 : am_zw 116 (619, 618, 0) = true := by decide +kernel
theorem am_zw117 : am_zw 117 (1063, 1062, 0) = true := by decide +kernel
theorem am_zw118 : am_zw 118 (1056, 1055, 0) = true := by decide +kernel
theorem am_zw119 : am_zw 119 (1151, 1150, 0) = true := by decide +kernel
theorem am_zw120 : am_zw 120 (626, 625, 0) = true := by decide +kernel
theorem am_zw121 : am_zw 121 (1158, 1157, 0) = true := by decide +kernel
theorem am_zw122 : am_zw 122 (633, 632, 0) = true := by decide +kernel
theorem am_zw123 : am_zw 123 (640, 639, 0) = true := by decide +kernel
theorem am_zw124 : am_zw 124 (1105, 1104, 0) = true := by decide +kernel
theorem am_zw125 : am_zw 125 (1125, 1124, 0) = true := by decide +kernel
theorem am_zw126 : am_zw 126 (718, 717, 0) = true := by decide +kernel
theorem am_zw127 : am_zw 127 (1133, 1132, 0) = true := by decide +kernel
theorem am_zw128 : am_zw 128 (1140, 1139, 0) = true := by decide +kernel
theorem am_zw129 : am_zw 129 (734, 733, 0) = true := by decide +kernel
theorem am_zw130 : am_zw 130 (757, 756, 0) = true := by decide +kernel
theorem am_zw131 : am_zw 131 (764, 763, 0) = true := by decide +kernel
theorem am_zw132 : am_zw 132 (1117, 1116, 0) = true := by decide +kernel
theorem am_zw133 : am_zw 133 (776, 775, 0) = true := by decide +kernel
theorem am_zw134 : am_zw 134 (788, 787, 0) = true := by decide +kernel
theorem am_zw135 : am_zw 135 (795, 794, 0) = true := by decide +kernel
theorem am_zw136 : am_zw 136 (811, 810, 0) = true := by decide +kernel
theorem am_zw137 : am_zw 137 (838, 837, 0) = true := by decide +kernel
theorem am_zw138 : am_zw 138 (973, 972, 0) = true := by decide +kernel
theorem am_zw139 : am_zw 139 (983, 982, 0) = true := by decide +kernel
theorem am_zw140 : am_zw 140 (1008, 1007, 0) = true := by decide +kernel
theorem am_zw141 : am_zw 141 (1087, 1086, 0) = true := by decide +kernel
theorem am_zw142 : am_zw 142 (890, 889, 0) = true := by decide +kernel
theorem am_zw143 : am_zw 143 (921, 920, 0) = true := by decide +kernel
theorem am_zw144 : am_zw 144 (944, 943, 0) = true := by decide +kernel
theorem am_zw145 : am_zw 145 (955, 954, 0) = true := by decide +kernel
theorem am_zw146 : am_zw 146 (962, 961, 0) = true := by decide +kernel
theorem am_zw147 : am_zw 147 (1388, 1387, 0) = true := by decide +kernel
theorem am_zw148 : am_zw 148 (970, 969, 0) = true := by decide +kernel
theorem am_zw149 : am_zw 149 (980, 979, 0) = true := by decide +kernel
theorem am_zw150 : am_zw 150 (1053, 1052, 0) = true := by decide +kernel
theorem am_zw151 : am_zw 151 (1070, 1069, 0) = true := by decide +kernel
theorem am_zw152 : am_zw 152 (1073, 1072, 0) = true := by decide +kernel
theorem am_zw153 : am_zw 153 (1148, 1147, 0) = true := by decide +kernel
theorem am_at_r {i : Nat} {w : Cond} (h : lw_tbl[i]? = some w) (h2 : am_gw w = true) : am_at i w = true := by
  unfold am_at
  rw [h, h2, decide_eq_true rfl]
  rfl
set_option maxRecDepth 100000 in
set_option maxHeartbeats 4000000 in
theorem am_zwb154 : lw_tbl[1391]? = some (am_cw 154) := rfl
theorem am_zw154 : am_zw 154 (1391, 1390, 0) = true := by
  have h1 : am_at 1391 (am_cw 154) = true := am_at_r am_zwb154 rfl
  unfold am_zw
  rw [h1]
  decide +kernel
theorem am_zw155 : am_zw 155 (258, 257, 0) = true := by decide +kernel
theorem am_zw156 : am_zw 156 (258, 257, 0) = true := by decide +kernel
theorem am_zw157 : am_zw 157 (258, 257, 0) = true := by decide +kernel
theorem am_zw158 : am_zw 158 (258, 257, 0) = true := by decide +kernel
theorem am_zw159 : am_zw 159 (258, 257, 0) = true := by decide +kernel
theorem am_zw160 : am_zw 160 (258, 257, 0) = true := by decide +kernel
theorem am_zw161 : am_zw 161 (258, 257, 0) = true := by decide +kernel
theorem am_zw162 : am_zw 162 (258, 257, 0) = true := by decide +kernel
theorem am_zw163 : am_zw 163 (258, 257, 0) = true := by decide +kernel
theorem am_zw164 : am_zw 164 (258, 257, 0) = true := by decide +kernel
theorem am_zw165 : am_zw 165 (258, 257, 0) = true := by decide +kernel
theorem am_zw166 : am_zw 166 (258, 257, 0) = true := by decide +kernel
theorem am_zw167 : am_zw 167 (258, 257, 0) = true := by decide +kernel
theorem am_zw168 : am_zw 168 (258, 257, 0) = true := by decide +kernel
theorem am_zw169 : am_zw 169 (258, 257, 0) = true := by decide +kernel
theorem am_zw170 : am_zw 170 (258, 257, 0) = true := by decide +kernel
theorem am_zw171 : am_zw 171 (258, 257, 0) = true := by decide +kernel
theorem am_zw172 : am_zw 172 (258, 257, 0) = true := by decide +kernel
theorem am_zw173 : am_zw 173 (258, 257, 0) = true := by decide +kernel
theorem am_zw174 : am_zw 174 (258, 257, 0) = true := by decide +kernel
theorem am_zw175 : am_zw 175 (258, 257, 0) = true := by decide +kernel
theorem am_zw176 : am_zw 176 (258, 257, 0) = true := by decide +kernel
theorem am_zw177 : am_zw 177 (258, 257, 0) = true := by decide +kernel
theorem am_zw178 : am_zw 178 (258, 257, 0) = true := by decide +kernel
theorem am_zw179 : am_zw 179 (258, 257, 0) = true := by decide +kernel
theorem am_zw180 : am_zw 180 (258, 257, 0) = true := by decide +kernel
theorem am_zw181 : am_zw 181 (258, 257, 0) = true := by decide +kernel
theorem am_zw182 : am_zw 182 (258, 257, 0) = true := by decide +kernel
theorem am_zw183 : am_zw 183 (258, 257, 0) = true := by decide +kernel
theorem am_zw184 : am_zw 184 (258, 257, 0) = true := by decide +kernel
theorem am_zw185 : am_zw 185 (258, 257, 0) = true := by decide +kernel
theorem am_zw186 : am_zw 186 (258, 257, 0) = true := by decide +kernel
theorem am_zw187 : am_zw 187 (258, 257, 0) = true := by decide +kernel
theorem am_zw188 : am_zw 188 (258, 257, 0) = true := by decide +kernel
theorem am_zw189 : am_zw 189 (258, 257, 0) = true := by decide +kernel
theorem am_zw190 : am_zw 190 (258, 257, 0) = true := by decide +kernel
theorem am_zw191 : am_zw 191 (258, 257, 0) = true := by decide +kernel
theorem am_zw192 : am_zw 192 (258, 257, 0) = true := by decide +kernel
theorem am_zw193 : am_zw 193 (258, 257, 0) = true := by decide +kernel
theorem am_zw194 : am_zw 194 (258, 257, 0) = true := by decide +kernel
theorem am_zw195 : am_zw 195 (258, 257, 0) = true := by decide +kernel
theorem am_zw196 : am_zw 196 (258, 257, 0) = true := by decide +kernel
theorem am_zw197 : am_zw 197 (258, 257, 0) = true := by decide +kernel
theorem am_zw198 : am_zw 198 (258, 257, 0) = true := by decide +kernel
theorem am_zw199 : am_zw 199 (258, 257, 0) = true := by decide +kernel
theorem am_zw200 : am_zw 200 (258, 257, 0) = true := by decide +kernel
theorem am_zw201 : am_zw 201 (258, 257, 0) = true := by decide +kernel
theorem am_zw202 : am_zw 202 (258, 257, 0) = true := by decide +kernel
theorem am_zw203 : am_zw 203 (258, 257, 0) = true := by decide +kernel
theorem am_zw204 : am_zw 204 (258, 257, 0) = true := by decide +kernel
theorem am_zw205 : am_zw 205 (258, 257, 0) = true := by decide +kernel
theorem am_zw206 : am_zw 206 (258, 257, 0) = true := by decide +kernel
theorem am_zw207 : am_zw 207 (258, 257, 0) = true := by decide +kernel
theorem am_zw208 : am_zw 208 (258, 257, 0) = true := by decide +kernel
theorem am_zw209 : am_zw 209 (258, 257, 0) = true := by decide +kernel
theorem am_zw210 : am_zw 210 (258, 257, 0) = true := by decide +kernel
theorem am_zw211 : am_zw 211 (258, 257, 0) = true := by decide +kernel
theorem am_zw212 : am_zw 212 (258, 257, 0) = true := by decide +kernel
theorem am_zw213 : am_zw 213 (258, 257, 0) = true := by decide +kernel
theorem am_zw214 : am_zw 214 (258, 257, 0) = true := by decide +kernel
theorem am_zw215 : am_zw 215 (258, 257, 0) = true := by decide +kernel
theorem am_zw216 : am_zw 216 (258, 257, 0) = true := by decide +kernel
theorem am_zw217 : am_zw 217 (258, 257, 0) = true := by decide +kernel
theorem am_zw218 : am_zw 218 (258, 257, 0) = true := by decide +kernel
theorem am_zw219 : am_zw 219 (258, 257, 0) = true := by decide +kernel
theorem am_zw220 : am_zw 220 (258, 257, 0) = true := by decide +kernel
theorem am_zw221 : am_zw 221 (258, 257, 0) = true := by decide +kernel
theorem am_zw222 : am_zw 222 (258, 257, 0) = true := by decide +kernel
theorem am_zw223 : am_zw 223 (258, 257, 0) = true := by decide +kernel
theorem am_zw224 : am_zw 224 (258, 257, 0) = true := by decide +kernel
theorem am_zw225 : am_zw 225 (258, 257, 0) = true := by decide +kernel
theorem am_zw226 : am_zw 226 (258, 257, 0) = true := by decide +kernel
theorem am_zw228 : am_zw 228 (492, 490, 491) = true := by decide +kernel
theorem am_zw229 : am_zw 229 (524, 522, 523) = true := by decide +kernel
theorem am_zw230 : am_zw 230 (520, 518, 519) = true := by decide +kernel
theorem am_zw231 : am_zw 231 (420, 419, 0) = true := by decide +kernel
theorem am_zw_ok : ∀ z, am_zk z → ∃ q, am_zw z q = true := fun z h => match z, h with
  | 0, _ => ⟨_, am_zw0⟩
  | 1, _ => ⟨_, am_zw1⟩
  | 2, _ => ⟨_, am_zw2⟩
  | 3, _ => ⟨_, am_zw3⟩
  | 4, _ => ⟨_, am_zw4⟩
  | 5, _ => ⟨_, am_zw5⟩
  | 6, _ => ⟨_, am_zw6⟩
  | 7, _ => ⟨_, am_zw7⟩
  | 8, _ => ⟨_, am_zw8⟩
  | 9, _ => ⟨_, am_zw9⟩
  | 10, _ => ⟨_, am_zw10⟩
  | 11, _ => ⟨_, am_zw11⟩
  | 12, _ => ⟨_, am_zw12⟩
  | 13, _ => ⟨_, am_zw13⟩
  | 14, _ => ⟨_, am_zw14⟩
  | 15, _ => ⟨_, am_zw15⟩
  | 16, _ => ⟨_, am_zw16⟩
  | 17, _ => ⟨_, am_zw17⟩
  | 18, _ => ⟨_, am_zw18⟩
  | 19, _ => ⟨_, am_zw19⟩
  | 20, _ => ⟨_, am_zw20⟩
  | 21, _ => ⟨_, am_zw21⟩
  | 22, _ => ⟨_, am_zw22⟩
  | 23, _ => ⟨_, am_zw23⟩
  | 24, _ => ⟨_, am_zw24⟩
  | 25, _ => ⟨_, am_zw25⟩
  | 26, _ => ⟨_, am_zw26⟩
  | 27, _ => ⟨_, am_zw27⟩
  | 28, _ => ⟨_, am_zw28⟩
  | 29, _ => ⟨_, am_zw29⟩
  | 30, _ => ⟨_, am_zw30⟩
  | 31, _ => ⟨_, am_zw31⟩
  | 32, _ => ⟨_, am_zw32⟩
  | 33, _ => ⟨_, am_zw33⟩
  | 34, _ => ⟨_, am_zw34⟩
  | 35, _ => ⟨_, am_zw35⟩
  | 36, _ => ⟨_, am_zw36⟩
  | 37, _ => ⟨_, am_zw37⟩
  | 38, _ => ⟨_, am_zw38⟩
  | 39, _ => ⟨_, am_zw39⟩
  | 40, _ => ⟨_, am_zw40⟩
  | 41, _ => ⟨_, am_zw41⟩
  | 42, _ => ⟨_, am_zw42⟩
  | 43, _ => ⟨_, am_zw43⟩
  | 44, _ => ⟨_, am_zw44⟩
  | 45, _ => ⟨_, am_zw45⟩
  | 46, _ => ⟨_, am_zw46⟩
  | 47, _ => ⟨_, am_zw47⟩
  | 48, _ => ⟨_, am_zw48⟩
  | 49, _ => ⟨_, am_zw49⟩
  | 50, _ => ⟨_, am_zw50⟩
  | 51, _ => ⟨_, am_zw51⟩
  | 52, _ => ⟨_, am_zw52⟩
  | 53, _ => ⟨_, am_zw53⟩
  | 54, _ => ⟨_, am_zw54⟩
  | 55, _ => ⟨_, am_zw55⟩
  | 56, _ => ⟨_, am_zw56⟩
  | 57, _ => ⟨_, am_zw57⟩
  | 58, _ => ⟨_, am_zw58⟩
  | 59, _ => ⟨_, am_zw59⟩
  | 60, _ => ⟨_, am_zw60⟩
  | 61, _ => ⟨_, am_zw61⟩
  | 62, _ => ⟨_, am_zw62⟩
  | 63, _ => ⟨_, am_zw63⟩
  | 64, _ => ⟨_, am_zw64⟩
  | 65, _ => ⟨_, am_zw65⟩
  | 66, _ => ⟨_, am_zw66⟩
  | 67, _ => ⟨_, am_zw67⟩
  | 68, _ => ⟨_, am_zw68⟩
  | 69, _ => ⟨_, am_zw69⟩
  | 70, _ => ⟨_, am_zw70⟩
  | 71, _ => ⟨_, am_zw71⟩
  | 72, _ => ⟨_, am_zw72⟩
  | 73, _ => ⟨_, am_zw73⟩
  | 74, _ => ⟨_, am_zw74⟩
  | 75, _ => ⟨_, am_zw75⟩
  | 76, _ => ⟨_, am_zw76⟩
  | 77, _ => ⟨_, am_zw77⟩
  | 78, _ => ⟨_, am_zw78⟩
  | 79, _ => ⟨_, am_zw79⟩
  | 80, _ => ⟨_, am_zw80⟩
  | 81, _ => ⟨_, am_zw81⟩
  | 82, _ => ⟨_, am_zw82⟩
  | 83, _ => ⟨_, am_zw83⟩
  | 84, _ => ⟨_, am_zw84⟩
  | 85, _ => ⟨_, am_zw85⟩
  | 86, _ => ⟨_, am_zw86⟩
  | 87, _ => ⟨_, am_zw87⟩
  | 88, _ => ⟨_, am_zw88⟩
  | 89, _ => ⟨_, am_zw89⟩
  | 90, _ => ⟨_, am_zw90⟩
  | 91, _ => ⟨_, am_zw91⟩
  | 92, _ => ⟨_, am_zw92⟩
  | 93, _ => ⟨_, am_zw93⟩
  | 94, _ => ⟨_, am_zw94⟩
  | 95, _ => ⟨_, am_zw95⟩
  | 96, _ => ⟨_, am_zw96⟩
  | 97, _ => ⟨_, am_zw97⟩
  | 98, _ => ⟨_, am_zw98⟩
  | 99, _ => ⟨_, am_zw99⟩
  | 100, _ => ⟨_, am_zw100⟩
  | 101, _ => ⟨_, am_zw101⟩
  | 102, _ => ⟨_, am_zw102⟩
  | 103, _ => ⟨_, am_zw103⟩
  | 104, _ => ⟨_, am_zw104⟩
  | 105, _ => ⟨_, am_zw105⟩
  | 106, _ => ⟨_, am_zw106⟩
  | 107, _ => ⟨_, am_zw107⟩
  | 108, _ => ⟨_, am_zw108⟩
  | 109, _ => ⟨_, am_zw109⟩
  | 110, _ => ⟨_, am_zw110⟩
  | 111, _ => ⟨_, am_zw111⟩
  | 112, _ => ⟨_, am_zw112⟩
  | 113, _ => ⟨_, am_zw113⟩
  | 114, _ => ⟨_, am_zw114⟩
  | 115, _ => ⟨_, am_zw115⟩
  | 116, _ => ⟨_, am_zw116⟩
  | 117, _ => ⟨_, am_zw117⟩
  | 118, _ => ⟨_, am_zw118⟩
  | 119, _ => ⟨_, am_zw119⟩
  | 120, _ => ⟨_, am_zw120⟩
  | 121, _ => ⟨_, am_zw121⟩
  | 122, _ => ⟨_, am_zw122⟩
  | 123, _ => ⟨_, am_zw123⟩
  | 124, _ => ⟨_, am_zw124⟩
  | 125, _ => ⟨_, am_zw125⟩
  | 126, _ => ⟨_, am_zw126⟩
  | 127, _ => ⟨_, am_zw127⟩
  | 128, _ => ⟨_, am_zw128⟩
  | 129, _ => ⟨_, am_zw129⟩
  | 130, _ => ⟨_, am_zw130⟩
  | 131, _ => ⟨_, am_zw131⟩
  | 132, _ => ⟨_, am_zw132⟩
  | 133, _ => ⟨_, am_zw133⟩
  | 134, _ => ⟨_, am_zw134⟩
  | 135, _ => ⟨_, am_zw135⟩
  | 136, _ => ⟨_, am_zw136⟩
  | 137, _ => ⟨_, am_zw137⟩
  | 138, _ => ⟨_, am_zw138⟩
  | 139, _ => ⟨_, am_zw139⟩
  | 140, _ => ⟨_, am_zw140⟩
  | 141, _ => ⟨_, am_zw141⟩
  | 142, _ => ⟨_, am_zw142⟩
  | 143, _ => ⟨_, am_zw143⟩
  | 144, _ => ⟨_, am_zw144⟩
  | 145, _ => ⟨_, am_zw145⟩
  | 146, _ => ⟨_, am_zw146⟩
  | 147, _ => ⟨_, am_zw147⟩
  | 148, _ => ⟨_, am_zw148⟩
  | 149, _ => ⟨_, am_zw149⟩
  | 150, _ => ⟨_, am_zw150⟩
  | 151, _ => ⟨_, am_zw151⟩
  | 152, _ => ⟨_, am_zw152⟩
  | 153, _ => ⟨_, am_zw153⟩
  | 154, _ => ⟨_, am_zw154⟩
  | 155, _ => ⟨_, am_zw155⟩
  | 156, _ => ⟨_, am_zw156⟩
  | 157, _ => ⟨_, am_zw157⟩
  | 158, _ => ⟨_, am_zw158⟩
  | 159, _ => ⟨_, am_zw159⟩
  | 160, _ => ⟨_, am_zw160⟩
  | 161, _ => ⟨_, am_zw161⟩
  | 162, _ => ⟨_, am_zw162⟩
  | 163, _ => ⟨_, am_zw163⟩
  | 164, _ => ⟨_, am_zw164⟩
  | 165, _ => ⟨_, am_zw165⟩
  | 166, _ => ⟨_, am_zw166⟩
  | 167, _ => ⟨_, am_zw167⟩
  | 168, _ => ⟨_, am_zw168⟩
  | 169, _ => ⟨_, am_zw169⟩
  | 170, _ => ⟨_, am_zw170⟩
  | 171, _ => ⟨_, am_zw171⟩
  | 172, _ => ⟨_, am_zw172⟩
  | 173, _ => ⟨_, am_zw173⟩
  | 174, _ => ⟨_, am_zw174⟩
  | 175, _ => ⟨_, am_zw175⟩
  | 176, _ => ⟨_, am_zw176⟩
  | 177, _ => ⟨_, am_zw177⟩
  | 178, _ => ⟨_, am_zw178⟩
  | 179, _ => ⟨_, am_zw179⟩
  | 180, _ => ⟨_, am_zw180⟩
  | 181, _ => ⟨_, am_zw181⟩
  | 182, _ => ⟨_, am_zw182⟩
  | 183, _ => ⟨_, am_zw183⟩
  | 184, _ => ⟨_, am_zw184⟩
  | 185, _ => ⟨_, am_zw185⟩
  | 186, _ => ⟨_, am_zw186⟩
  | 187, _ => ⟨_, am_zw187⟩
  | 188, _ => ⟨_, am_zw188⟩
  | 189, _ => ⟨_, am_zw189⟩
  | 190, _ => ⟨_, am_zw190⟩
  | 191, _ => ⟨_, am_zw191⟩
  | 192, _ => ⟨_, am_zw192⟩
  | 193, _ => ⟨_, am_zw193⟩
  | 194, _ => ⟨_, am_zw194⟩
  | 195, _ => ⟨_, am_zw195⟩
  | 196, _ => ⟨_, am_zw196⟩
  | 197, _ => ⟨_, am_zw197⟩
  | 198, _ => ⟨_, am_zw198⟩
  | 199, _ => ⟨_, am_zw199⟩
  | 200, _ => ⟨_, am_zw200⟩
  | 201, _ => ⟨_, am_zw201⟩
  | 202, _ => ⟨_, am_zw202⟩
  | 203, _ => ⟨_, am_zw203⟩
  | 204, _ => ⟨_, am_zw204⟩
  | 205, _ => ⟨_, am_zw205⟩
  | 206, _ => ⟨_, am_zw206⟩
  | 207, _ => ⟨_, am_zw207⟩
  | 208, _ => ⟨_, am_zw208⟩
  | 209, _ => ⟨_, am_zw209⟩
  | 210, _ => ⟨_, am_zw210⟩
  | 211, _ => ⟨_, am_zw211⟩
  | 212, _ => ⟨_, am_zw212⟩
  | 213, _ => ⟨_, am_zw213⟩
  | 214, _ => ⟨_, am_zw214⟩
  | 215, _ => ⟨_, am_zw215⟩
  | 216, _ => ⟨_, am_zw216⟩
  | 217, _ => ⟨_, am_zw217⟩
  | 218, _ => ⟨_, am_zw218⟩
  | 219, _ => ⟨_, am_zw219⟩
  | 220, _ => ⟨_, am_zw220⟩
  | 221, _ => ⟨_, am_zw221⟩
  | 222, _ => ⟨_, am_zw222⟩
  | 223, _ => ⟨_, am_zw223⟩
  | 224, _ => ⟨_, am_zw224⟩
  | 225, _ => ⟨_, am_zw225⟩
  | 226, _ => ⟨_, am_zw226⟩
  | 227, h => absurd rfl h.2
  | 228, _ => ⟨_, am_zw228⟩
  | 229, _ => ⟨_, am_zw229⟩
  | 230, _ => ⟨_, am_zw230⟩
  | 231, _ => ⟨_, am_zw231⟩
  | n + 232, h => absurd h.1 (by omega)
end
section
def am_dbN : MethodName := ⟨"java/lang/Double", "doubleToLongBits", "(D)J"⟩
def am_fbN : MethodName := ⟨"java/lang/Float", "floatToIntBits", "(F)I"⟩
def am_slN : MethodName := ⟨"java/lang/String", "length", "()I"⟩
def am_scN : MethodName := ⟨"java/lang/String", "charAt", "(I)C"⟩
def am_mlw (q : Nat × Nat × Nat × Nat) (i : Nat) : Bool := decide (q.1 < 11) && (match q.2.2.1 with
  | 0 => am_at i (.methodLink (am_cR q.1) q.2.1 (am_y q.2.2.2)) && am_ks q.2.2.2 == 1 && decide (am_zk q.2.2.2) && am_tr q.2.2.2
  | 1 => am_at i (.methodLink (am_cR q.1) q.2.1 (am_y q.2.2.2)) && am_ks q.2.2.2 == 0 && decide (am_zk q.2.2.2)
  | 2 => am_at i (.methodLink (am_cR q.1) q.2.1 (am_y q.2.2.2)) && am_ks q.2.2.2 == 2 && decide (am_zk q.2.2.2) && am_tr q.2.2.2
  | 3 => am_at i (.methodLinkNest (am_cR q.1) q.2.1 (am_y q.2.2.2) "BellTelegraph") && am_ks q.2.2.2 == 2 && decide (am_zk q.2.2.2) && am_tr q.2.2.2
  | 4 => am_at i (.methodLinkNest (am_cR q.1) q.2.1 (am_y q.2.2.2) "BellTelegraph") && am_ks q.2.2.2 == 0 && decide (am_zk q.2.2.2) && am_tr q.2.2.2
  | 5 => am_at i (.methodLink (am_cR q.1) q.2.1 objectInit)
  | 6 => am_at i (.methodLink (am_cR q.1) q.2.1 Lib.Math.min.name)
  | 7 => am_at i (.methodLink (am_cR q.1) q.2.1 arraycopyName)
  | 8 => am_at i (.methodLink (am_cR q.1) q.2.1 am_dbN)
  | 9 => am_at i (.methodLink (am_cR q.1) q.2.1 am_fbN)
  | 10 => am_at i (.methodLink (am_cR q.1) q.2.1 am_slN)
  | 11 => am_at i (.methodLink (am_cR q.1) q.2.1 am_scN)
  | _ => false)
theorem am_ml_ok : am_al2 am_mlw am_ml_t [259, 282, 285, 847, 863, 851, 855, 872, 880, 884, 859, 867, 871, 876, 67, 360, 221, 224, 126, 457, 368, 56, 64, 109, 123, 356, 363, 364, 399, 414, 421, 432, 440, 444, 465, 477, 403, 406, 410, 418, 425, 429, 436, 448, 453, 461, 469, 473, 481, 485, 489, 493, 497, 501, 509, 526, 530, 538, 513, 517, 521, 525, 534, 542, 505, 804, 808, 241, 112, 48, 53, 218, 238, 256, 279, 383, 387, 391, 352, 395, 613, 679, 699, 700, 1110, 1130, 769, 773, 967, 1122, 683, 1114, 723, 728, 781, 785, 727, 800, 914, 832, 843, 988, 992, 926, 930, 934, 938, 949, 379, 620, 1064, 1057, 1152, 627, 1159, 634, 675, 1106, 1126, 719, 1134, 1141, 736, 758, 765, 1118, 777, 789, 796, 813, 839, 974, 984, 1009, 1088, 905, 922, 945, 956, 963, 996, 1013, 809, 836, 971, 981, 1006, 369, 372, 375, 617, 1054, 1061, 888, 1075, 1085, 1093, 919, 638, 732, 762, 960, 1103, 1115, 1123, 716, 1131, 1138, 793, 755, 774, 786, 340, 1145, 1149, 1068, 624, 1156, 631, 1386, 1071, 968, 344, 45, 942, 953, 348, 978, 1051, 1389, 1146, 1394] = true := by decide +kernel
theorem am_kc_ok : am_al2 (fun (q : Nat × Nat × Int32) i => am_at i (.constant (am_cR q.1) q.2.1 q.2.2)) am_kc_t [452, 1395] = true := by decide +kernel
theorem am_kl_ok : am_al2 (fun (q : Nat × Nat × Int64) i => am_at i (.constantLong (am_cR q.1) q.2.1 q.2.2)) am_kl_t [1074] = true := by decide +kernel
theorem am_kf_ok : am_al2 (fun (q : Nat × Nat × UInt32) i => am_at i (.constantFloat (am_cR q.1) q.2.1 q.2.2)) am_kf_t [1092] = true := by decide +kernel
theorem am_kd2_ok : am_al2 (fun (q : Nat × Nat × UInt64) i => am_at i (.constantDouble (am_cR q.1) q.2.1 q.2.2)) am_kd2_t [918, 1397] = true := by decide +kernel
end
section
def am_xn : List String := ["java/lang/RuntimeException", "java/lang/Exception"]
def am_eic : List (Nat × Nat) := [(0, 83), (1, 176), (2, 123), (3, 186), (4, 257), (5, 166)]
def am_nww (q : Nat × Nat × (Nat ⊕ (Nat × Nat))) (i : Nat) : Bool := decide (q.1 < 11) && (match q.2.2 with
  | .inl ci => am_at i (.classLink (am_cR q.1) q.2.1 (am_cR ci)) && decide (ci < 10)
  | .inr (E, ic) => am_at i (.classLink (am_cR q.1) q.2.1 (am_en E)) && decide (E < 6) && decide ((E, ic) ∈ am_eic) && decide (q.1 = 8))
theorem am_nw_ok : am_al2 am_nww am_nw_t [283, 222, 57, 59, 61, 51, 216, 236, 254, 277, 545, 701, 909, 684, 740, 817, 43] = true := by decide +kernel
theorem am_aw_ok : am_al2 (fun (q : Nat × Nat × Nat) i => am_at i (.classLink (am_cR q.1) q.2.1 (am_cR q.2.2)) && decide (q.2.2 < 10)) am_aw_t [283, 222, 57, 59, 61] = true := by decide +kernel
theorem am_ao_ok : am_al2 (fun (ci i : Nat) => am_at i (.arrayOver (.object (am_cR ci)))) [0, 2, 4, 5, 7] [284, 58, 62, 223, 60] = true := by decide +kernel
theorem am_ac_ok : am_al2 (fun (t : FieldType) i => am_at i (.arrayClass t)) [.int, .char, .long, .byte] [107, 305, 1398, 669] = true := by decide +kernel
def am_ob : List Cond := [.instanceMethod objectInit, .code objectInit ⟨#[0xb1]⟩ 1 none, .static Lib.Math.min.name, .initialized "java/lang/Math", .code Lib.Math.min.name Lib.Math.min.code 2 (some .int), .native arraycopyName, .static arraycopyName, .initialized "java/lang/System"]
theorem am_ob_ok : am_al2 (fun w i => am_at i w) am_ob [49, 50, 1235, 40, 1236, 362, 361, 23] = true := by decide +kernel
theorem am_ex_ok0 : ((Cond.classLink (am_cR 8) 0 (am_en 0) :: Cond.initialized (am_en 0) :: vx_at0 (am_cR 8) 83 (am_en 0) am_xn).all vx_ot && (Cond.initialized (am_en 0) :: vx_at0 (am_cR 8) 83 (am_en 0) am_xn).all (fun w => decide (w ∈ am_W))) = true := by decide +kernel
theorem am_ex_ok1 : ((Cond.classLink (am_cR 8) 0 (am_en 1) :: Cond.initialized (am_en 1) :: vx_at0 (am_cR 8) 176 (am_en 1) am_xn).all vx_ot && (Cond.initialized (am_en 1) :: vx_at0 (am_cR 8) 176 (am_en 1) am_xn).all (fun w => decide (w ∈ am_W))) = true := by decide +kernel
theorem am_ex_ok2 : ((Cond.classLink (am_cR 8) 0 (am_en 2) :: Cond.initialized (am_en 2) :: vx_at0 (am_cR 8) 123 (am_en 2) am_xn).all vx_ot && (Cond.initialized (am_en 2) :: vx_at0 (am_cR 8) 123 (am_en 2) am_xn).all (fun w => decide (w ∈ am_W))) = true := by decide +kernel
theorem am_ex_ok3 : ((Cond.classLink (am_cR 8) 0 (am_en 3) :: Cond.initialized (am_en 3) :: vx_at0 (am_cR 8) 186 (am_en 3) am_xn).all vx_ot && (Cond.initialized (am_en 3) :: vx_at0 (am_cR 8) 186 (am_en 3) am_xn).all (fun w => decide (w ∈ am_W))) = true := by decide +kernel
theorem am_ex_ok4 : ((Cond.classLink (am_cR 8) 0 (am_en 4) :: Cond.initialized (am_en 4) :: vx_at0 (am_cR 8) 257 (am_en 4) am_xn).all vx_ot && (Cond.initialized (am_en 4) :: vx_at0 (am_cR 8) 257 (am_en 4) am_xn).all (fun w => decide (w ∈ am_W))) = true := by decide +kernel
theorem am_ex_ok5 : ((Cond.classLink (am_cR 8) 0 (am_en 5) :: Cond.initialized (am_en 5) :: vx_at0 (am_cR 8) 166 (am_en 5) am_xn).all vx_ot && (Cond.initialized (am_en 5) :: vx_at0 (am_cR 8) 166 (am_en 5) am_xn).all (fun w => decide (w ∈ am_W))) = true := by decide +kernel
end
section
/-- an entry of a table of handlers: its class's word, what stands at its target -/
def am_he (z : Nat) (q : Nat × Nat × Nat × Nat) (h : Nat × Nat × Nat × Nat × Nat) (i : Nat) : Bool := decide (q.1 = h.1) && decide (q.2.1 = h.2.1) && decide (q.2.2.2 ≠ 0) && decide (h.2.2.1 < 6) && am_at i (.classLink (am_cR 10) q.2.2.2 (am_en h.2.2.1)) && decide (am_own z = 10) &&
  (match am_cd z q.2.2.1 with
  | some (.astore_n j) => decide (j.val = h.2.2.2.2) && decide (q.2.2.1 + 1 = h.2.2.2.1)
  | some (.astore j) => decide (j = h.2.2.2.2) && decide (q.2.2.1 + 2 = h.2.2.2.1)
  | _ => false)
def am_hes (z : Nat) : List (Nat × Nat × Nat × Nat) → List (Nat × Nat × Nat × Nat × Nat) → List Nat → Bool
  | [], [], _ => true
  | q :: qs, h :: hs, i :: is => am_he z q h i && am_hes z qs hs is
  | _, _, _ => false
/-- an exception that passes by a handler of another class -/
def am_ncs : List (Nat × Nat) := [(2, 1), (3, 1), (0, 2), (3, 2)]
/-- at each call with a table: whoever may come is caught by an entry, and passes by those before -/
def am_hps (z : Nat) : Bool := match am_hs z with
  | [] => true
  | [_] => true
  | [a, b] => decide ((b.2.2.1, a.2.2.1) ∈ am_ncs)
  | _ => false
theorem am_hk115 : (am_hes 115 (am_hh 115) (am_hs 115) [378] && am_hps 115) = true := by decide +kernel
theorem am_hk116 : (am_hes 116 (am_hh 116) (am_hs 116) [378] && am_hps 116) = true := by decide +kernel
theorem am_hk117 : (am_hes 117 (am_hh 117) (am_hs 117) [378] && am_hps 117) = true := by decide +kernel
theorem am_hk118 : (am_hes 118 (am_hh 118) (am_hs 118) [378] && am_hps 118) = true := by decide +kernel
theorem am_hk119 : (am_hes 119 (am_hh 119) (am_hs 119) [378] && am_hps 119) = true := by decide +kernel
theorem am_hk120 : (am_hes 120 (am_hh 120) (am_hs 120) [378] && am_hps 120) = true := by decide +kernel
theorem am_hk121 : (am_hes 121 (am_hh 121) (am_hs 121) [378] && am_hps 121) = true := by decide +kernel
theorem am_hk122 : (am_hes 122 (am_hh 122) (am_hs 122) [378] && am_hps 122) = true := by decide +kernel
theorem am_hk123 : (am_hes 123 (am_hh 123) (am_hs 123) [641, 674] && am_hps 123) = true := by decide +kernel
theorem am_hk124 : (am_hes 124 (am_hh 124) (am_hs 124) [641, 674] && am_hps 124) = true := by decide +kernel
theorem am_hk125 : (am_hes 125 (am_hh 125) (am_hs 125) [674] && am_hps 125) = true := by decide +kernel
theorem am_hk126 : (am_hes 126 (am_hh 126) (am_hs 126) [641, 674] && am_hps 126) = true := by decide +kernel
theorem am_hk127 : (am_hes 127 (am_hh 127) (am_hs 127) [641] && am_hps 127) = true := by decide +kernel
theorem am_hk128 : (am_hes 128 (am_hh 128) (am_hs 128) [641] && am_hps 128) = true := by decide +kernel
theorem am_hk129 : (am_hes 129 (am_hh 129) (am_hs 129) [641, 735] && am_hps 129) = true := by decide +kernel
theorem am_hk130 : (am_hes 130 (am_hh 130) (am_hs 130) [735] && am_hps 130) = true := by decide +kernel
theorem am_hk131 : (am_hes 131 (am_hh 131) (am_hs 131) [641, 735] && am_hps 131) = true := by decide +kernel
theorem am_hk132 : (am_hes 132 (am_hh 132) (am_hs 132) [641, 674] && am_hps 132) = true := by decide +kernel
theorem am_hk133 : (am_hes 133 (am_hh 133) (am_hs 133) [641, 735] && am_hps 133) = true := by decide +kernel
theorem am_hk134 : (am_hes 134 (am_hh 134) (am_hs 134) [641, 735] && am_hps 134) = true := by decide +kernel
theorem am_hk135 : (am_hes 135 (am_hh 135) (am_hs 135) [735] && am_hps 135) = true := by decide +kernel
theorem am_hk136 : (am_hes 136 (am_hh 136) (am_hs 136) [812] && am_hps 136) = true := by decide +kernel
theorem am_hk137 : (am_hes 137 (am_hh 137) (am_hs 137) [674, 378] && am_hps 137) = true := by decide +kernel
theorem am_hk138 : (am_hes 138 (am_hh 138) (am_hs 138) [674, 735] && am_hps 138) = true := by decide +kernel
theorem am_hk139 : (am_hes 139 (am_hh 139) (am_hs 139) [641] && am_hps 139) = true := by decide +kernel
theorem am_hk140 : (am_hes 140 (am_hh 140) (am_hs 140) [641] && am_hps 140) = true := by decide +kernel
theorem am_hk141 : (am_hes 141 (am_hh 141) (am_hs 141) [891] && am_hps 141) = true := by decide +kernel
theorem am_hk142 : (am_hes 142 (am_hh 142) (am_hs 142) [891] && am_hps 142) = true := by decide +kernel
theorem am_hk143 : (am_hes 143 (am_hh 143) (am_hs 143) [674] && am_hps 143) = true := by decide +kernel
theorem am_hk144 : (am_hes 144 (am_hh 144) (am_hs 144) [812] && am_hps 144) = true := by decide +kernel
theorem am_hk145 : (am_hes 145 (am_hh 145) (am_hs 145) [812] && am_hps 145) = true := by decide +kernel
theorem am_hk146 : (am_hes 146 (am_hh 146) (am_hs 146) [641, 735] && am_hps 146) = true := by decide +kernel
theorem am_hk_ok : ∀ z, ∃ is, (am_hes z (am_hh z) (am_hs z) is && am_hps z) = true := fun z => match z with
  | 0 => ⟨[], rfl⟩
  | 1 => ⟨[], rfl⟩
  | 2 => ⟨[], rfl⟩
  | 3 => ⟨[], rfl⟩
  | 4 => ⟨[], rfl⟩
  | 5 => ⟨[], rfl⟩
  | 6 => ⟨[], rfl⟩
  | 7 => ⟨[], rfl⟩
  | 8 => ⟨[], rfl⟩
  | 9 => ⟨[], rfl⟩
  | 10 => ⟨[], rfl⟩
  | 11 => ⟨[], rfl⟩
  | 12 => ⟨[], rfl⟩
  | 13 => ⟨[], rfl⟩
  | 14 => ⟨[], rfl⟩
  | 15 => ⟨[], rfl⟩
  | 16 => ⟨[], rfl⟩
  | 17 => ⟨[], rfl⟩
  | 18 => ⟨[], rfl⟩
  | 19 => ⟨[], rfl⟩
  | 20 => ⟨[], rfl⟩
  | 21 => ⟨[], rfl⟩
  | 22 => ⟨[], rfl⟩
  | 23 => ⟨[], rfl⟩
  | 24 => ⟨[], rfl⟩
  | 25 => ⟨[], rfl⟩
  | 26 => ⟨[], rfl⟩
  | 27 => ⟨[], rfl⟩
  | 28 => ⟨[], rfl⟩
  | 29 => ⟨[], rfl⟩
  | 30 => ⟨[], rfl⟩
  | 31 => ⟨[], rfl⟩
  | 32 => ⟨[], rfl⟩
  | 33 => ⟨[], rfl⟩
  | 34 => ⟨[], rfl⟩
  | 35 => ⟨[], rfl⟩
  | 36 => ⟨[], rfl⟩
  | 37 => ⟨[], rfl⟩
  | 38 => ⟨[], rfl⟩
  | 39 => ⟨[], rfl⟩
  | 40 => ⟨[], rfl⟩
  | 41 => ⟨[], rfl⟩
  | 42 => ⟨[], rfl⟩
  | 43 => ⟨[], rfl⟩
  | 44 => ⟨[], rfl⟩
  | 45 => ⟨[], rfl⟩
  | 46 => ⟨[], rfl⟩
  | 47 => ⟨[], rfl⟩
  | 48 => ⟨[], rfl⟩
  | 49 => ⟨[], rfl⟩
  | 50 => ⟨[], rfl⟩
  | 51 => ⟨[], rfl⟩
  | 52 => ⟨[], rfl⟩
  | 53 => ⟨[], rfl⟩
  | 54 => ⟨[], rfl⟩
  | 55 => ⟨[], rfl⟩
  | 56 => ⟨[], rfl⟩
  | 57 => ⟨[], rfl⟩
  | 58 => ⟨[], rfl⟩
  | 59 => ⟨[], rfl⟩
  | 60 => ⟨[], rfl⟩
  | 61 => ⟨[], rfl⟩
  | 62 => ⟨[], rfl⟩
  | 63 => ⟨[], rfl⟩
  | 64 => ⟨[], rfl⟩
  | 65 => ⟨[], rfl⟩
  | 66 => ⟨[], rfl⟩
  | 67 => ⟨[], rfl⟩
  | 68 => ⟨[], rfl⟩
  | 69 => ⟨[], rfl⟩
  | 70 => ⟨[], rfl⟩
  | 71 => ⟨[], rfl⟩
  | 72 => ⟨[], rfl⟩
  | 73 => ⟨[], rfl⟩
  | 74 => ⟨[], rfl⟩
  | 75 => ⟨[], rfl⟩
  | 76 => ⟨[], rfl⟩
  | 77 => ⟨[], rfl⟩
  | 78 => ⟨[], rfl⟩
  | 79 => ⟨[], rfl⟩
  | 80 => ⟨[], rfl⟩
  | 81 => ⟨[], rfl⟩
  | 82 => ⟨[], rfl⟩
  | 83 => ⟨[], rfl⟩
  | 84 => ⟨[], rfl⟩
  | 85 => ⟨[], rfl⟩
  | 86 => ⟨[], rfl⟩
  | 87 => ⟨[], rfl⟩
  | 88 => ⟨[], rfl⟩
  | 89 => ⟨[], rfl⟩
  | 90 => ⟨[], rfl⟩
  | 91 => ⟨[], rfl⟩
  | 92 => ⟨[], rfl⟩
  | 93 => ⟨[], rfl⟩
  | 94 => ⟨[], rfl⟩
  | 95 => ⟨[], rfl⟩
  | 96 => ⟨[], rfl⟩
  | 97 => ⟨[], rfl⟩
  | 98 => ⟨[], rfl⟩
  | 99 => ⟨[], rfl⟩
  | 100 => ⟨[], rfl⟩
  | 101 => ⟨[], rfl⟩
  | 102 => ⟨[], rfl⟩
  | 103 => ⟨[], rfl⟩
  | 104 => ⟨[], rfl⟩
  | 105 => ⟨[], rfl⟩
  | 106 => ⟨[], rfl⟩
  | 107 => ⟨[], rfl⟩
  | 108 => ⟨[], rfl⟩
  | 109 => ⟨[], rfl⟩
  | 110 => ⟨[], rfl⟩
  | 111 => ⟨[], rfl⟩
  | 112 => ⟨[], rfl⟩
  | 113 => ⟨[], rfl⟩
  | 114 => ⟨[], rfl⟩
  | 115 => ⟨_, am_hk115⟩
  | 116 => ⟨_, am_hk116⟩
  | 117 => ⟨_, am_hk117⟩
  | 118 => ⟨_, am_hk118⟩
  | 119 => ⟨_, am_hk119⟩
  | 120 => ⟨_, am_hk120⟩
  | 121 => ⟨_, am_hk121⟩
  | 122 => ⟨_, am_hk122⟩
  | 123 => ⟨_, am_hk123⟩
  | 124 => ⟨_, am_hk124⟩
  | 125 => ⟨_, am_hk125⟩
  | 126 => ⟨_, am_hk126⟩
  | 127 => ⟨_, am_hk127⟩
  | 128 => ⟨_, am_hk128⟩
  | 129 => ⟨_, am_hk129⟩
  | 130 => ⟨_, am_hk130⟩
  | 131 => ⟨_, am_hk131⟩
  | 132 => ⟨_, am_hk132⟩
  | 133 => ⟨_, am_hk133⟩
  | 134 => ⟨_, am_hk134⟩
  | 135 => ⟨_, am_hk135⟩
  | 136 => ⟨_, am_hk136⟩
  | 137 => ⟨_, am_hk137⟩
  | 138 => ⟨_, am_hk138⟩
  | 139 => ⟨_, am_hk139⟩
  | 140 => ⟨_, am_hk140⟩
  | 141 => ⟨_, am_hk141⟩
  | 142 => ⟨_, am_hk142⟩
  | 143 => ⟨_, am_hk143⟩
  | 144 => ⟨_, am_hk144⟩
  | 145 => ⟨_, am_hk145⟩
  | 146 => ⟨_, am_hk146⟩
  | 147 => ⟨[], rfl⟩
  | 148 => ⟨[], rfl⟩
  | 149 => ⟨[], rfl⟩
  | 150 => ⟨[], rfl⟩
  | 151 => ⟨[], rfl⟩
  | 152 => ⟨[], rfl⟩
  | 153 => ⟨[], rfl⟩
  | 154 => ⟨[], rfl⟩
  | 155 => ⟨[], rfl⟩
  | 156 => ⟨[], rfl⟩
  | 157 => ⟨[], rfl⟩
  | 158 => ⟨[], rfl⟩
  | 159 => ⟨[], rfl⟩
  | 160 => ⟨[], rfl⟩
  | 161 => ⟨[], rfl⟩
  | 162 => ⟨[], rfl⟩
  | 163 => ⟨[], rfl⟩
  | 164 => ⟨[], rfl⟩
  | 165 => ⟨[], rfl⟩
  | 166 => ⟨[], rfl⟩
  | 167 => ⟨[], rfl⟩
  | 168 => ⟨[], rfl⟩
  | 169 => ⟨[], rfl⟩
  | 170 => ⟨[], rfl⟩
  | 171 => ⟨[], rfl⟩
  | 172 => ⟨[], rfl⟩
  | 173 => ⟨[], rfl⟩
  | 174 => ⟨[], rfl⟩
  | 175 => ⟨[], rfl⟩
  | 176 => ⟨[], rfl⟩
  | 177 => ⟨[], rfl⟩
  | 178 => ⟨[], rfl⟩
  | 179 => ⟨[], rfl⟩
  | 180 => ⟨[], rfl⟩
  | 181 => ⟨[], rfl⟩
  | 182 => ⟨[], rfl⟩
  | 183 => ⟨[], rfl⟩
  | 184 => ⟨[], rfl⟩
  | 185 => ⟨[], rfl⟩
  | 186 => ⟨[], rfl⟩
  | 187 => ⟨[], rfl⟩
  | 188 => ⟨[], rfl⟩
  | 189 => ⟨[], rfl⟩
  | 190 => ⟨[], rfl⟩
  | 191 => ⟨[], rfl⟩
  | 192 => ⟨[], rfl⟩
  | 193 => ⟨[], rfl⟩
  | 194 => ⟨[], rfl⟩
  | 195 => ⟨[], rfl⟩
  | 196 => ⟨[], rfl⟩
  | 197 => ⟨[], rfl⟩
  | 198 => ⟨[], rfl⟩
  | 199 => ⟨[], rfl⟩
  | 200 => ⟨[], rfl⟩
  | 201 => ⟨[], rfl⟩
  | 202 => ⟨[], rfl⟩
  | 203 => ⟨[], rfl⟩
  | 204 => ⟨[], rfl⟩
  | 205 => ⟨[], rfl⟩
  | 206 => ⟨[], rfl⟩
  | 207 => ⟨[], rfl⟩
  | 208 => ⟨[], rfl⟩
  | 209 => ⟨[], rfl⟩
  | 210 => ⟨[], rfl⟩
  | 211 => ⟨[], rfl⟩
  | 212 => ⟨[], rfl⟩
  | 213 => ⟨[], rfl⟩
  | 214 => ⟨[], rfl⟩
  | 215 => ⟨[], rfl⟩
  | 216 => ⟨[], rfl⟩
  | 217 => ⟨[], rfl⟩
  | 218 => ⟨[], rfl⟩
  | 219 => ⟨[], rfl⟩
  | 220 => ⟨[], rfl⟩
  | 221 => ⟨[], rfl⟩
  | 222 => ⟨[], rfl⟩
  | 223 => ⟨[], rfl⟩
  | 224 => ⟨[], rfl⟩
  | 225 => ⟨[], rfl⟩
  | 226 => ⟨[], rfl⟩
  | 227 => ⟨[], rfl⟩
  | 228 => ⟨[], rfl⟩
  | 229 => ⟨[], rfl⟩
  | 230 => ⟨[], rfl⟩
  | 231 => ⟨[], rfl⟩
  | _ + 232 => ⟨[], rfl⟩
theorem am_cas_ok : am_al2 (fun (k i : Nat) => am_at i (.castable (am_en k) (am_en k))) (List.range 6) [547, 686, 703, 742, 819, 903] = true := by decide +kernel
def am_ln : Instr → Nat := fun i => match i with
  | .iload _ | .aload _ | .fload _ | .dload _ | .lload _ | .lstore _ | .istore _ | .astore _ | .fstore _ | .dstore _ | .bipush _ | .ldc _ | .newarray _ => 2
  | .iinc _ _ | .sipush _ | .ldc_w _ | .ldc2_w _ | .goto _ | .ifCond _ _ | .if_icmp _ _ | .getfield _ | .putfield _ | .invokevirtual _ | .invokespecial _ | .invokestatic _ | .new _ | .anewarray _ => 3
  | .tableswitch _ _ _ _ | .lookupswitch _ _ => 0
  | _ => 1
def am_dok (b : ByteArray) (q : Nat × Instr) : Bool := match decode b q.1 with
  | .ok (i, n) => decide (i = q.2) && (am_ln q.2 == 0 || am_ln q.2 == n)
  | _ => false
theorem am_dk0 : (am_code 0).all (am_dok (am_by 0)) = true := by decide +kernel
theorem am_dk1 : (am_code 1).all (am_dok (am_by 1)) = true := by decide +kernel
theorem am_dk2 : (am_code 2).all (am_dok (am_by 2)) = true := by decide +kernel
theorem am_dk3 : (am_code 3).all (am_dok (am_by 3)) = true := by decide +kernel
theorem am_dk4 : (am_code 4).all (am_dok (am_by 4)) = true := by decide +kernel
theorem am_dk5 : (am_code 5).all (am_dok (am_by 5)) = true := by decide +kernel
theorem am_dk6 : (am_code 6).all (am_dok (am_by 6)) = true := by decide +kernel
theorem am_dk7 : (am_code 7).all (am_dok (am_by 7)) = true := by decide +kernel
theorem am_dk8 : (am_code 8).all (am_dok (am_by 8)) = true := by decide +kernel
theorem am_dk9 : (am_code 9).all (am_dok (am_by 9)) = true := by decide +kernel
theorem am_dk10 : (am_code 10).all (am_dok (am_by 10)) = true := by decide +kernel
theorem am_dk11 : (am_code 11).all (am_dok (am_by 11)) = true := by decide +kernel
theorem am_dk12 : (am_code 12).all (am_dok (am_by 12)) = true := by decide +kernel
theorem am_dk13 : (am_code 13).all (am_dok (am_by 13)) = true := by decide +kernel
theorem am_dk14 : (am_code 14).all (am_dok (am_by 14)) = true := by decide +kernel
theorem am_dk15 : (am_code 15).all (am_dok (am_by 15)) = true := by decide +kernel
theorem am_dk16 : (am_code 16).all (am_dok (am_by 16)) = true := by decide +kernel
theorem am_dk17 : (am_code 17).all (am_dok (am_by 17)) = true := by decide +kernel
theorem am_dk18 : (am_code 18).all (am_dok (am_by 18)) = true := by decide +kernel
theorem am_dk19 : (am_code 19).all (am_dok (am_by 19)) = true := by decide +kernel
theorem am_dk20 : (am_code 20).all (am_dok (am_by 20)) = true := by decide +kernel
theorem am_dk21 : (am_code 21).all (am_dok (am_by 21)) = true := by decide +kernel
theorem am_dk22 : (am_code 22).all (am_dok (am_by 22)) = true := by decide +kernel
theorem am_dk23 : (am_code 23).all (am_dok (am_by 23)) = true := by decide +kernel
theorem am_dk24 : (am_code 24).all (am_dok (am_by 24)) = true := by decide +kernel
theorem am_dk25 : (am_code 25).all (am_dok (am_by 25)) = true := by decide +kernel
theorem am_dk26 : (am_code 26).all (am_dok (am_by 26)) = true := by decide +kernel
theorem am_dk27 : (am_code 27).all (am_dok (am_by 27)) = true := by decide +kernel
theorem am_dk28 : (am_code 28).all (am_dok (am_by 28)) = true := by decide +kernel
theorem am_dk29 : (am_code 29).all (am_dok (am_by 29)) = true := by decide +kernel
theorem am_dk30 : (am_code 30).all (am_dok (am_by 30)) = true := by decide +kernel
theorem am_dk31 : (am_code 31).all (am_dok (am_by 31)) = true := by decide +kernel
theorem am_dk32 : (am_code 32).all (am_dok (am_by 32)) = true := by decide +kernel
theorem am_dk33 : (am_code 33).all (am_dok (am_by 33)) = true := by decide +kernel
theorem am_dk34 : (am_code 34).all (am_dok (am_by 34)) = true := by decide +kernel
theorem am_dk35 : (am_code 35).all (am_dok (am_by 35)) = true := by decide +kernel
theorem am_dk36 : (am_code 36).all (am_dok (am_by 36)) = true := by decide +kernel
theorem am_dk37 : (am_code 37).all (am_dok (am_by 37)) = true := by decide +kernel
theorem am_dk38 : (am_code 38).all (am_dok (am_by 38)) = true := by decide +kernel
theorem am_dk39 : (am_code 39).all (am_dok (am_by 39)) = true := by decide +kernel
theorem am_dk40 : (am_code 40).all (am_dok (am_by 40)) = true := by decide +kernel
theorem am_dk41 : (am_code 41).all (am_dok (am_by 41)) = true := by decide +kernel
theorem am_dk42 : (am_code 42).all (am_dok (am_by 42)) = true := by decide +kernel
theorem am_dk43 : (am_code 43).all (am_dok (am_by 43)) = true := by decide +kernel
theorem am_dk44 : (am_code 44).all (am_dok (am_by 44)) = true := by decide +kernel
theorem am_dk45_0 : (am_c45_0).all (am_dok (am_by 45)) = true := by decide +kernel
theorem am_dk45_1 : (am_c45_1).all (am_dok (am_by 45)) = true := by decide +kernel
theorem am_dk45_2 : (am_c45_2).all (am_dok (am_by 45)) = true := by decide +kernel
theorem am_dk45 : (am_code 45).all (am_dok (am_by 45)) = true := by
  show (am_c45_0 ++ (am_c45_1 ++ (am_c45_2))).all _ = true
  simp only [List.all_append, am_dk45_0, am_dk45_1, am_dk45_2, Bool.and_self]
theorem am_dk46 : (am_code 46).all (am_dok (am_by 46)) = true := by decide +kernel
theorem am_dk47 : (am_code 47).all (am_dok (am_by 47)) = true := by decide +kernel
theorem am_dk48 : (am_code 48).all (am_dok (am_by 48)) = true := by decide +kernel
theorem am_dk49_0 : (am_c49_0).all (am_dok (am_by 49)) = true := by decide +kernel
theorem am_dk49_1 : (am_c49_1).all (am_dok (am_by 49)) = true := by decide +kernel
theorem am_dk49_2 : (am_c49_2).all (am_dok (am_by 49)) = true := by decide +kernel
theorem am_dk49 : (am_code 49).all (am_dok (am_by 49)) = true := by
  show (am_c49_0 ++ (am_c49_1 ++ (am_c49_2))).all _ = true
  simp only [List.all_append, am_dk49_0, am_dk49_1, am_dk49_2, Bool.and_self]
theorem am_dk50 : (am_code 50).all (am_dok (am_by 50)) = true := by decide +kernel
theorem am_dk51 : (am_code 51).all (am_dok (am_by 51)) = true := by decide +kernel
theorem am_dk52 : (am_code 52).all (am_dok (am_by 52)) = true := by decide +kernel
theorem am_dk53 : (am_code 53).all (am_dok (am_by 53)) = true := by decide +kernel
theorem am_dk54 : (am_code 54).all (am_dok (am_by 54)) = true := by decide +kernel
theorem am_dk55 : (am_code 55).all (am_dok (am_by 55)) = true := by decide +kernel
theorem am_dk56 : (am_code 56).all (am_dok (am_by 56)) = true := by decide +kernel
theorem am_dk57 : (am_code 57).all (am_dok (am_by 57)) = true := by decide +kernel
theorem am_dk58 : (am_code 58).all (am_dok (am_by 58)) = true := by decide +kernel
theorem am_dk59 : (am_code 59).all (am_dok (am_by 59)) = true := by decide +kernel
theorem am_dk60 : (am_code 60).all (am_dok (am_by 60)) = true := by decide +kernel
theorem am_dk61 : (am_code 61).all (am_dok (am_by 61)) = true := by decide +kernel
theorem am_dk62 : (am_code 62).all (am_dok (am_by 62)) = true := by decide +kernel
theorem am_dk63 : (am_code 63).all (am_dok (am_by 63)) = true := by decide +kernel
theorem am_dk64 : (am_code 64).all (am_dok (am_by 64)) = true := by decide +kernel
theorem am_dk65 : (am_code 65).all (am_dok (am_by 65)) = true := by decide +kernel
theorem am_dk66 : (am_code 66).all (am_dok (am_by 66)) = true := by decide +kernel
theorem am_dk67 : (am_code 67).all (am_dok (am_by 67)) = true := by decide +kernel
theorem am_dk68 : (am_code 68).all (am_dok (am_by 68)) = true := by decide +kernel
theorem am_dk69 : (am_code 69).all (am_dok (am_by 69)) = true := by decide +kernel
theorem am_dk70 : (am_code 70).all (am_dok (am_by 70)) = true := by decide +kernel
theorem am_dk71 : (am_code 71).all (am_dok (am_by 71)) = true := by decide +kernel
theorem am_dk72 : (am_code 72).all (am_dok (am_by 72)) = true := by decide +kernel
theorem am_dk73 : (am_code 73).all (am_dok (am_by 73)) = true := by decide +kernel
theorem am_dk74 : (am_code 74).all (am_dok (am_by 74)) = true := by decide +kernel
theorem am_dk75 : (am_code 75).all (am_dok (am_by 75)) = true := by decide +kernel
theorem am_dk76 : (am_code 76).all (am_dok (am_by 76)) = true := by decide +kernel
theorem am_dk77 : (am_code 77).all (am_dok (am_by 77)) = true := by decide +kernel
theorem am_dk78 : (am_code 78).all (am_dok (am_by 78)) = true := by decide +kernel
theorem am_dk79 : (am_code 79).all (am_dok (am_by 79)) = true := by decide +kernel
theorem am_dk80 : (am_code 80).all (am_dok (am_by 80)) = true := by decide +kernel
theorem am_dk81 : (am_code 81).all (am_dok (am_by 81)) = true := by decide +kernel
theorem am_dk82 : (am_code 82).all (am_dok (am_by 82)) = true := by decide +kernel
theorem am_dk83 : (am_code 83).all (am_dok (am_by 83)) = true := by decide +kernel
theorem am_dk84 : (am_code 84).all (am_dok (am_by 84)) = true := by decide +kernel
theorem am_dk85 : (am_code 85).all (am_dok (am_by 85)) = true := by decide +kernel
theorem am_dk86 : (am_code 86).all (am_dok (am_by 86)) = true := by decide +kernel
theorem am_dk87 : (am_code 87).all (am_dok (am_by 87)) = true := by decide +kernel
theorem am_dk88 : (am_code 88).all (am_dok (am_by 88)) = true := by decide +kernel
theorem am_dk89 : (am_code 89).all (am_dok (am_by 89)) = true := by decide +kernel
theorem am_dk90 : (am_code 90).all (am_dok (am_by 90)) = true := by decide +kernel
theorem am_dk91 : (am_code 91).all (am_dok (am_by 91)) = true := by decide +kernel
theorem am_dk92 : (am_code 92).all (am_dok (am_by 92)) = true := by decide +kernel
theorem am_dk93 : (am_code 93).all (am_dok (am_by 93)) = true := by decide +kernel
theorem am_dk94 : (am_code 94).all (am_dok (am_by 94)) = true := by decide +kernel
theorem am_dk95 : (am_code 95).all (am_dok (am_by 95)) = true := by decide +kernel
theorem am_dk96 : (am_code 96).all (am_dok (am_by 96)) = true := by decide +kernel
theorem am_dk97 : (am_code 97).all (am_dok (am_by 97)) = true := by decide +kernel
theorem am_dk98 : (am_code 98).all (am_dok (am_by 98)) = true := by decide +kernel
theorem am_dk99 : (am_code 99).all (am_dok (am_by 99)) = true := by decide +kernel
theorem am_dk100 : (am_code 100).all (am_dok (am_by 100)) = true := by decide +kernel
theorem am_dk101 : (am_code 101).all (am_dok (am_by 101)) = true := by decide +kernel
theorem am_dk102 : (am_code 102).all (am_dok (am_by 102)) = true := by decide +kernel
theorem am_dk103 : (am_code 103).all (am_dok (am_by 103)) = true := by decide +kernel
theorem am_dk104 : (am_code 104).all (am_dok (am_by 104)) = true := by decide +kernel
theorem am_dk105 : (am_code 105).all (am_dok (am_by 105)) = true := by decide +kernel
theorem am_dk106 : (am_code 106).all (am_dok (am_by 106)) = true := by decide +kernel
theorem am_dk107 : (am_code 107).all (am_dok (am_by 107)) = true := by decide +kernel
theorem am_dk108 : (am_code 108).all (am_dok (am_by 108)) = true := by decide +kernel
theorem am_dk109 : (am_code 109).all (am_dok (am_by 109)) = true := by decide +kernel
theorem am_dk110 : (am_code 110).all (am_dok (am_by 110)) = true := by decide +kernel
theorem am_dk111 : (am_code 111).all (am_dok (am_by 111)) = true := by decide +kernel
theorem am_dk112 : (am_code 112).all (am_dok (am_by 112)) = true := by decide +kernel
theorem am_dk113 : (am_code 113).all (am_dok (am_by 113)) = true := by decide +kernel
theorem am_dk114 : (am_code 114).all (am_dok (am_by 114)) = true := by decide +kernel
theorem am_dk115 : (am_code 115).all (am_dok (am_by 115)) = true := by decide +kernel
theorem am_dk116 : (am_code 116).all (am_dok (am_by 116)) = true := by decide +kernel
theorem am_dk117 : (am_code 117).all (am_dok (am_by 117)) = true := by decide +kernel
theorem am_dk118 : (am_code 118).all (am_dok (am_by 118)) = true := by decide +kernel
theorem am_dk119 : (am_code 119).all (am_dok (am_by 119)) = true := by decide +kernel
theorem am_dk120 : (am_code 120).all (am_dok (am_by 120)) = true := by decide +kernel
theorem am_dk121 : (am_code 121).all (am_dok (am_by 121)) = true := by decide +kernel
theorem am_dk122 : (am_code 122).all (am_dok (am_by 122)) = true := by decide +kernel
theorem am_dk123 : (am_code 123).all (am_dok (am_by 123)) = true := by decide +kernel
theorem am_dk124 : (am_code 124).all (am_dok (am_by 124)) = true := by decide +kernel
theorem am_dk125 : (am_code 125).all (am_dok (am_by 125)) = true := by decide +kernel
theorem am_dk126 : (am_code 126).all (am_dok (am_by 126)) = true := by decide +kernel
theorem am_dk127 : (am_code 127).all (am_dok (am_by 127)) = true := by decide +kernel
theorem am_dk128 : (am_code 128).all (am_dok (am_by 128)) = true := by decide +kernel
theorem am_dk129 : (am_code 129).all (am_dok (am_by 129)) = true := by decide +kernel
theorem am_dk130 : (am_code 130).all (am_dok (am_by 130)) = true := by decide +kernel
theorem am_dk131 : (am_code 131).all (am_dok (am_by 131)) = true := by decide +kernel
theorem am_dk132 : (am_code 132).all (am_dok (am_by 132)) = true := by decide +kernel
theorem am_dk133 : (am_code 133).all (am_dok (am_by 133)) = true := by decide +kernel
theorem am_dk134 : (am_code 134).all (am_dok (am_by 134)) = true := by decide +kernel
theorem am_dk135 : (am_code 135).all (am_dok (am_by 135)) = true := by decide +kernel
theorem am_dk136 : (am_code 136).all (am_dok (am_by 136)) = true := by decide +kernel
theorem am_dk137 : (am_code 137).all (am_dok (am_by 137)) = true := by decide +kernel
theorem am_dk138 : (am_code 138).all (am_dok (am_by 138)) = true := by decide +kernel
theorem am_dk139 : (am_code 139).all (am_dok (am_by 139)) = true := by decide +kernel
theorem am_dk140 : (am_code 140).all (am_dok (am_by 140)) = true := by decide +kernel
theorem am_dk141 : (am_code 141).all (am_dok (am_by 141)) = true := by decide +kernel
theorem am_dk142 : (am_code 142).all (am_dok (am_by 142)) = true := by decide +kernel
theorem am_dk143 : (am_code 143).all (am_dok (am_by 143)) = true := by decide +kernel
theorem am_dk144 : (am_code 144).all (am_dok (am_by 144)) = true := by decide +kernel
theorem am_dk145 : (am_code 145).all (am_dok (am_by 145)) = true := by decide +kernel
theorem am_dk146 : (am_code 146).all (am_dok (am_by 146)) = true := by decide +kernel
theorem am_dk147 : (am_code 147).all (am_dok (am_by 147)) = true := by decide +kernel
theorem am_dk148 : (am_code 148).all (am_dok (am_by 148)) = true := by decide +kernel
theorem am_dk149 : (am_code 149).all (am_dok (am_by 149)) = true := by decide +kernel
theorem am_dk150_0 : (am_c150_0).all (am_dok (am_by 150)) = true := by decide +kernel
theorem am_dk150_1 : (am_c150_1).all (am_dok (am_by 150)) = true := by decide +kernel
theorem am_dk150_2 : (am_c150_2).all (am_dok (am_by 150)) = true := by decide +kernel
theorem am_dk150 : (am_code 150).all (am_dok (am_by 150)) = true := by
  show (am_c150_0 ++ (am_c150_1 ++ (am_c150_2))).all _ = true
  simp only [List.all_append, am_dk150_0, am_dk150_1, am_dk150_2, Bool.and_self]
theorem am_dk151 : (am_code 151).all (am_dok (am_by 151)) = true := by decide +kernel
theorem am_dk152_0 : (am_c152_0).all (am_dok (am_by 152)) = true := by decide +kernel
theorem am_dk152_1 : (am_c152_1).all (am_dok (am_by 152)) = true := by decide +kernel
theorem am_dk152_2 : (am_c152_2).all (am_dok (am_by 152)) = true := by decide +kernel
theorem am_dk152_3 : (am_c152_3).all (am_dok (am_by 152)) = true := by decide +kernel
theorem am_dk152_4 : (am_c152_4).all (am_dok (am_by 152)) = true := by decide +kernel
theorem am_dk152_5 : (am_c152_5).all (am_dok (am_by 152)) = true := by decide +kernel
theorem am_dk152_6 : (am_c152_6).all (am_dok (am_by 152)) = true := by decide +kernel
theorem am_dk152 : (am_code 152).all (am_dok (am_by 152)) = true := by
  show (am_c152_0 ++ (am_c152_1 ++ (am_c152_2 ++ (am_c152_3 ++ (am_c152_4 ++ (am_c152_5 ++ (am_c152_6))))))).all _ = true
  simp only [List.all_append, am_dk152_0, am_dk152_1, am_dk152_2, am_dk152_3, am_dk152_4, am_dk152_5, am_dk152_6, Bool.and_self]
theorem am_dk153_0 : (am_c153_0).all (am_dok (am_by 153)) = true := by decide +kernel
theorem am_dk153_1 : (am_c153_1).all (am_dok (am_by 153)) = true := by decide +kernel
theorem am_dk153_2 : (am_c153_2).all (am_dok (am_by 153)) = true := by decide +kernel
theorem am_dk153_3 : (am_c153_3).all (am_dok (am_by 153)) = true := by decide +kernel
theorem am_dk153_4 : (am_c153_4).all (am_dok (am_by 153)) = true := by decide +kernel
theorem am_dk153_5 : (am_c153_5).all (am_dok (am_by 153)) = true := by decide +kernel
theorem am_dk153 : (am_code 153).all (am_dok (am_by 153)) = true := by
  show (am_c153_0 ++ (am_c153_1 ++ (am_c153_2 ++ (am_c153_3 ++ (am_c153_4 ++ (am_c153_5)))))).all _ = true
  simp only [List.all_append, am_dk153_0, am_dk153_1, am_dk153_2, am_dk153_3, am_dk153_4, am_dk153_5, Bool.and_self]
theorem am_dk154_0 : (am_c154_0).all (am_dok (am_by 154)) = true := by decide +kernel
theorem am_dk154_1 : (am_c154_1).all (am_dok (am_by 154)) = true := by decide +kernel
theorem am_dk154_2 : (am_c154_2).all (am_dok (am_by 154)) = true := by decide +kernel
theorem am_dk154_3 : (am_c154_3).all (am_dok (am_by 154)) = true := by decide +kernel
theorem am_dk154_4 : (am_c154_4).all (am_dok (am_by 154)) = true := by decide +kernel
theorem am_dk154_5 : (am_c154_5).all (am_dok (am_by 154)) = true := by decide +kernel
theorem am_dk154_6 : (am_c154_6).all (am_dok (am_by 154)) = true := by decide +kernel
theorem am_dk154_7 : (am_c154_7).all (am_dok (am_by 154)) = true := by decide +kernel
theorem am_dk154_8 : (am_c154_8).all (am_dok (am_by 154)) = true := by decide +kernel
theorem am_dk154_9 : (am_c154_9).all (am_dok (am_by 154)) = true := by decide +kernel
theorem am_dk154_10 : (am_c154_10).all (am_dok (am_by 154)) = true := by decide +kernel
theorem am_dk154 : (am_code 154).all (am_dok (am_by 154)) = true := by
  show (am_c154_0 ++ (am_c154_1 ++ (am_c154_2 ++ (am_c154_3 ++ (am_c154_4 ++ (am_c154_5 ++ (am_c154_6 ++ (am_c154_7 ++ (am_c154_8 ++ (am_c154_9 ++ (am_c154_10))))))))))).all _ = true
  simp only [List.all_append, am_dk154_0, am_dk154_1, am_dk154_2, am_dk154_3, am_dk154_4, am_dk154_5, am_dk154_6, am_dk154_7, am_dk154_8, am_dk154_9, am_dk154_10, Bool.and_self]
theorem am_dk228 : (am_code 228).all (am_dok (am_by 228)) = true := by decide +kernel
theorem am_dk229 : (am_code 229).all (am_dok (am_by 229)) = true := by decide +kernel
theorem am_dk230 : (am_code 230).all (am_dok (am_by 230)) = true := by decide +kernel
theorem am_dk231 : (am_code 231).all (am_dok (am_by 231)) = true := by decide +kernel
end
section
theorem am_dk227_0 : (am_c227_0).all (am_dok (am_by 227)) = true := by decide +kernel
theorem am_dk227_1 : (am_c227_1).all (am_dok (am_by 227)) = true := by decide +kernel
theorem am_dk227_2 : (am_c227_2).all (am_dok (am_by 227)) = true := by decide +kernel
theorem am_dk227_3 : (am_c227_3).all (am_dok (am_by 227)) = true := by decide +kernel
theorem am_dk227_4 : (am_c227_4).all (am_dok (am_by 227)) = true := by decide +kernel
theorem am_dk227_5 : (am_c227_5).all (am_dok (am_by 227)) = true := by decide +kernel
theorem am_dk227_6 : (am_c227_6).all (am_dok (am_by 227)) = true := by decide +kernel
theorem am_dk227_7 : (am_c227_7).all (am_dok (am_by 227)) = true := by decide +kernel
theorem am_dk227_8 : (am_c227_8).all (am_dok (am_by 227)) = true := by decide +kernel
theorem am_dk227_9 : (am_c227_9).all (am_dok (am_by 227)) = true := by decide +kernel
theorem am_dk227_10 : (am_c227_10).all (am_dok (am_by 227)) = true := by decide +kernel
theorem am_dk227 : (am_code 227).all (am_dok (am_by 227)) = true := by
  show (am_c227_0 ++ (am_c227_1 ++ (am_c227_2 ++ (am_c227_3 ++ (am_c227_4 ++ (am_c227_5 ++ (am_c227_6 ++ (am_c227_7 ++ (am_c227_8 ++ (am_c227_9 ++ (am_c227_10))))))))))).all _ = true
  simp only [List.all_append, am_dk227_0, am_dk227_1, am_dk227_2, am_dk227_3, am_dk227_4, am_dk227_5, am_dk227_6, am_dk227_7, am_dk227_8, am_dk227_9, am_dk227_10, Bool.and_self]
theorem am_dk : ∀ z, (am_code z).all (am_dok (am_by z)) = true := fun z => match z with
  | 0 => am_dk0
  | 1 => am_dk1
  | 2 => am_dk2
  | 3 => am_dk3
  | 4 => am_dk4
  | 5 => am_dk5
  | 6 => am_dk6
  | 7 => am_dk7
  | 8 => am_dk8
  | 9 => am_dk9
  | 10 => am_dk10
  | 11 => am_dk11
  | 12 => am_dk12
  | 13 => am_dk13
  | 14 => am_dk14
  | 15 => am_dk15
  | 16 => am_dk16
  | 17 => am_dk17
  | 18 => am_dk18
  | 19 => am_dk19
  | 20 => am_dk20
  | 21 => am_dk21
  | 22 => am_dk22
  | 23 => am_dk23
  | 24 => am_dk24
  | 25 => am_dk25
  | 26 => am_dk26
  | 27 => am_dk27
  | 28 => am_dk28
  | 29 => am_dk29
  | 30 => am_dk30
  | 31 => am_dk31
  | 32 => am_dk32
  | 33 => am_dk33
  | 34 => am_dk34
  | 35 => am_dk35
  | 36 => am_dk36
  | 37 => am_dk37
  | 38 => am_dk38
  | 39 => am_dk39
  | 40 => am_dk40
  | 41 => am_dk41
  | 42 => am_dk42
  | 43 => am_dk43
  | 44 => am_dk44
  | 45 => am_dk45
  | 46 => am_dk46
  | 47 => am_dk47
  | 48 => am_dk48
  | 49 => am_dk49
  | 50 => am_dk50
  | 51 => am_dk51
  | 52 => am_dk52
  | 53 => am_dk53
  | 54 => am_dk54
  | 55 => am_dk55
  | 56 => am_dk56
  | 57 => am_dk57
  | 58 => am_dk58
  | 59 => am_dk59
  | 60 => am_dk60
  | 61 => am_dk61
  | 62 => am_dk62
  | 63 => am_dk63
  | 64 => am_dk64
  | 65 => am_dk65
  | 66 => am_dk66
  | 67 => am_dk67
  | 68 => am_dk68
  | 69 => am_dk69
  | 70 => am_dk70
  | 71 => am_dk71
  | 72 => am_dk72
  | 73 => am_dk73
  | 74 => am_dk74
  | 75 => am_dk75
  | 76 => am_dk76
  | 77 => am_dk77
  | 78 => am_dk78
  | 79 => am_dk79
  | 80 => am_dk80
  | 81 => am_dk81
  | 82 => am_dk82
  | 83 => am_dk83
  | 84 => am_dk84
  | 85 => am_dk85
  | 86 => am_dk86
  | 87 => am_dk87
  | 88 => am_dk88
  | 89 => am_dk89
  | 90 => am_dk90
  | 91 => am_dk91
  | 92 => am_dk92
  | 93 => am_dk93
  | 94 => am_dk94
  | 95 => am_dk95
  | 96 => am_dk96
  | 97 => am_dk97
  | 98 => am_dk98
  | 99 => am_dk99
  | 100 => am_dk100
  | 101 => am_dk101
  | 102 => am_dk102
  | 103 => am_dk103
  | 104 => am_dk104
  | 105 => am_dk105
  | 106 => am_dk106
  | 107 => am_dk107
  | 108 => am_dk108
  | 109 => am_dk109
  | 110 => am_dk110
  | 111 => am_dk111
  | 112 => am_dk112
  | 113 => am_dk113
  | 114 => am_dk114
  | 115 => am_dk115
  | 116 => am_dk116
  | 117 => am_dk117
  | 118 => am_dk118
  | 119 => am_dk119
  | 120 => am_dk120
  | 121 => am_dk121
  | 122 => am_dk122
  | 123 => am_dk123
  | 124 => am_dk124
  | 125 => am_dk125
  | 126 => am_dk126
  | 127 => am_dk127
  | 128 => am_dk128
  | 129 => am_dk129
  | 130 => am_dk130
  | 131 => am_dk131
  | 132 => am_dk132
  | 133 => am_dk133
  | 134 => am_dk134
  | 135 => am_dk135
  | 136 => am_dk136
  | 137 => am_dk137
  | 138 => am_dk138
  | 139 => am_dk139
  | 140 => am_dk140
  | 141 => am_dk141
  | 142 => am_dk142
  | 143 => am_dk143
  | 144 => am_dk144
  | 145 => am_dk145
  | 146 => am_dk146
  | 147 => am_dk147
  | 148 => am_dk148
  | 149 => am_dk149
  | 150 => am_dk150
  | 151 => am_dk151
  | 152 => am_dk152
  | 153 => am_dk153
  | 154 => am_dk154
  | 155 => am_dk0
  | 156 => am_dk0
  | 157 => am_dk0
  | 158 => am_dk0
  | 159 => am_dk0
  | 160 => am_dk0
  | 161 => am_dk0
  | 162 => am_dk0
  | 163 => am_dk0
  | 164 => am_dk0
  | 165 => am_dk0
  | 166 => am_dk0
  | 167 => am_dk0
  | 168 => am_dk0
  | 169 => am_dk0
  | 170 => am_dk0
  | 171 => am_dk0
  | 172 => am_dk0
  | 173 => am_dk0
  | 174 => am_dk0
  | 175 => am_dk0
  | 176 => am_dk0
  | 177 => am_dk0
  | 178 => am_dk0
  | 179 => am_dk0
  | 180 => am_dk0
  | 181 => am_dk0
  | 182 => am_dk0
  | 183 => am_dk0
  | 184 => am_dk0
  | 185 => am_dk0
  | 186 => am_dk0
  | 187 => am_dk0
  | 188 => am_dk0
  | 189 => am_dk0
  | 190 => am_dk0
  | 191 => am_dk0
  | 192 => am_dk0
  | 193 => am_dk0
  | 194 => am_dk0
  | 195 => am_dk0
  | 196 => am_dk0
  | 197 => am_dk0
  | 198 => am_dk0
  | 199 => am_dk0
  | 200 => am_dk0
  | 201 => am_dk0
  | 202 => am_dk0
  | 203 => am_dk0
  | 204 => am_dk0
  | 205 => am_dk0
  | 206 => am_dk0
  | 207 => am_dk0
  | 208 => am_dk0
  | 209 => am_dk0
  | 210 => am_dk0
  | 211 => am_dk0
  | 212 => am_dk0
  | 213 => am_dk0
  | 214 => am_dk0
  | 215 => am_dk0
  | 216 => am_dk0
  | 217 => am_dk0
  | 218 => am_dk0
  | 219 => am_dk0
  | 220 => am_dk0
  | 221 => am_dk0
  | 222 => am_dk0
  | 223 => am_dk0
  | 224 => am_dk0
  | 225 => am_dk0
  | 226 => am_dk0
  | 227 => am_dk227
  | 228 => am_dk228
  | 229 => am_dk229
  | 230 => am_dk230
  | 231 => am_dk231
  | _ + 232 => rfl
end
section
/-! AN ABSTRACT MACHINE over the places of this system: a place is (kind, network, number); what the places hold are ints (am_M), where their references lead is am_T. -/
abbrev am_L : Type := Nat × Nat × Nat
abbrev am_V : Type := Value ⊕ Option am_L
abbrev am_M : Type := am_L → Nat → Int32
abbrev am_T : Type := am_L → Nat → Option am_L
abbrev am_X : Type := am_T × Option Nat × Nat × Nat × Option (Nat → Int64) × Option (List Nat)
abbrev am_R : Type := (Option am_V ⊕ Nat) × am_M × am_X
abbrev am_S : Type := List (Option am_V)
abbrev am_I (x : Int32) : am_V := .inl (.int x)
abbrev am_P (l : am_L) : am_V := .inr (some l)
def am_set (M : am_M) (l : am_L) (j : Nat) (x : Int32) : am_M := fun l' j' => if l' = l ∧ j' = j then x else M l' j'
def am_setT (M : am_T) (l : am_L) (j : Nat) (x : Option am_L) : am_T := fun l' j' => if l' = l ∧ j' = j then x else M l' j'
def am_cp (M : am_M) (s d : am_L) (sp dp n : Nat) : am_M := fun l' j' => if l' = d then va_cpy (M s) (M d) sp dp n j' else M l' j'
/-- kinds: (0, class) an object; (1, n) ints; (2, n) chars; (3, class, n) references; 6 the script. (1, 0, 0) is the row of longs, (50, 0, 0) the String at hand: they have no cell of this table -/
def am_kd (l : am_L) : Nat × Nat × Nat := match l.1 with
  | 0 => (6, 0, 0) | 3 => (0, 8, 0) | 4 => (0, 3, 0) | 5 => (3, 5, 9) | 6 => (0, 6, 0) | 7 => (0, 0, 0) | 8 => (0, 1, 0) | 9 => (2, 60, 0) | 10 => (3, 0, 20)
  | 11 => (0, 0, 0) | 12 => (2, 14, 0) | 13 => (0, 5, 0) | 14 => (3, 2, 6) | 15 => (3, 7, 5) | 16 => (1, 9, 0) | 17 => (3, 4, 16) | 18 => (1, 16, 0) | 20 => (1, 8, 0)
  | 21 => (0, 2, 0) | 22 => (1, 16, 0) | 23 => (0, 7, 0) | 24 => (0, 4, 0) | 25 => (1, 8, 0) | _ => (9, 0, 0)
def am_ok (l : am_L) : Bool := match l.1 with
  | 0 => l.2.1 == 0 && l.2.2 == 0 | 3 => l.2.1 == 0 && l.2.2 == 0 | 4 => l.2.1 == 0 && l.2.2 == 0 | 5 => l.2.1 == 0 && l.2.2 == 0 | 6 => l.2.1 == 0 && l.2.2 == 0 | 7 => l.2.1 == 0 && l.2.2 == 0 | 8 => l.2.1 == 0 && l.2.2 == 0 | 9 => l.2.1 == 0 && l.2.2 == 0 | 10 => l.2.1 == 0 && l.2.2 == 0
  | 11 => l.2.1 == 0 && decide (l.2.2 < 20) | 12 => l.2.1 == 0 && l.2.2 == 0
  | 13 => decide (l.2.1 < 12) && l.2.2 == 0 | 14 => decide (l.2.1 < 12) && l.2.2 == 0 | 15 => decide (l.2.1 < 12) && l.2.2 == 0 | 16 => decide (l.2.1 < 12) && l.2.2 == 0 | 17 => decide (l.2.1 < 12) && l.2.2 == 0 | 18 => decide (l.2.1 < 12) && l.2.2 == 0 | 20 => decide (l.2.1 < 12) && l.2.2 == 0
  | 21 => decide (l.2.1 < 12) && decide (l.2.2 < 6) | 22 => decide (l.2.1 < 12) && decide (l.2.2 < 6) | 23 => decide (l.2.1 < 12) && decide (l.2.2 < 5) | 24 => decide (l.2.1 < 12) && decide (l.2.2 < 16) | 25 => decide (l.2.1 < 12) && decide (l.2.2 < 16)
  | _ => false
def am_nb (n : Nat) : Nat := if n < 3 then 1 + 56 * n else 3 + 56 * n
def am_ad (l : am_L) : Nat := match l.1 with
  | 3 => 0 | 4 => 169 | 5 => 170 | 6 => 675 | 7 => 676 | 8 => 677 | 9 => 678 | 10 => 679 | 11 => 680 + l.2.2 | 12 => 700
  | 13 => am_nb l.2.1 | 14 => am_nb l.2.1 + 1 | 15 => am_nb l.2.1 + 2 | 16 => am_nb l.2.1 + 3 | 17 => am_nb l.2.1 + 4 | 18 => am_nb l.2.1 + 5 | 20 => am_nb l.2.1 + 6
  | 21 => am_nb l.2.1 + 7 + 2 * l.2.2 | 22 => am_nb l.2.1 + 8 + 2 * l.2.2 | 23 => am_nb l.2.1 + 19 + l.2.2 | 24 => am_nb l.2.1 + 24 + 2 * l.2.2 | 25 => am_nb l.2.1 + 25 + 2 * l.2.2
  | _ => 0
def am_lr (n r : Nat) : am_L :=
  if r < 6 then (13 + r, n, 0) else if r < 7 then (20, n, 0) else if r < 19 then (21 + (r - 7) % 2, n, (r - 7) / 2) else if r < 24 then (23, n, r - 19) else (24 + (r - 24) % 2, n, (r - 24) / 2)
/-- the place that is laid at this number -/
def am_lo (a : Nat) : am_L :=
  if a = 0 then (3, 0, 0) else if a < 169 then am_lr ((a - 1) / 56) ((a - 1) % 56) else if a = 169 then (4, 0, 0) else if a = 170 then (5, 0, 0) else if a < 675 then am_lr (3 + (a - 171) / 56) ((a - 171) % 56)
  else if a = 675 then (6, 0, 0) else if a = 676 then (7, 0, 0) else if a = 677 then (8, 0, 0) else if a = 678 then (9, 0, 0) else if a = 679 then (10, 0, 0) else if a < 700 then (11, 0, a - 680) else if a = 700 then (12, 0, 0)
  else (0, 0, 0)
/-- may the place be used: it is one, and it is made already -/
def am_al (ph : Option Nat) (l : am_L) : Bool := am_ok l && (match ph with
  | none => true
  | some c => decide (am_ad l < c) || l.1 == 0)
section AmPop
variable {α : Type}
def am_asI (v : am_V) (f : Int32 → Option α) : Option α := match v with
  | .inl (.int x) => f x
  | _ => none
def am_asF (v : am_V) (f : UInt32 → Option α) : Option α := match v with
  | .inl (.float x) => f x
  | _ => none
def am_asD (v : am_V) (f : UInt64 → Option α) : Option α := match v with
  | .inl (.double x) => f x
  | _ => none
/-- on with what is there, or the other way -/
def am_o2 {β : Type} (o : Option β) (f : β → Option α) (x : Option α) : Option α := match o with
  | some t => f t
  | none => x
def am_asJ (v : am_V) (f : Int64 → Option α) : Option α := match v with
  | .inl (.long x) => f x
  | _ => none
def am_asP (v : am_V) (f : am_L → Option α) : Option α := match v with
  | .inr (some l) => f l
  | _ => none
def am_pop (st : List am_V) (f : am_V → List am_V → Option α) : Option α := match st with
  | v :: r => f v r
  | [] => none
def am_popI (st : List am_V) (f : Int32 → List am_V → Option α) : Option α := match st with
  | .inl (.int x) :: r => f x r
  | _ => none
def am_popJ (st : List am_V) (f : Int64 → List am_V → Option α) : Option α := match st with
  | .inl (.long x) :: r => f x r
  | _ => none
def am_popF (st : List am_V) (f : UInt32 → List am_V → Option α) : Option α := match st with
  | .inl (.float x) :: r => f x r
  | _ => none
def am_popD (st : List am_V) (f : UInt64 → List am_V → Option α) : Option α := match st with
  | .inl (.double x) :: r => f x r
  | _ => none
def am_popP (st : List am_V) (f : am_L → List am_V → Option α) : Option α := match st with
  | .inr (some l) :: r => f l r
  | _ => none
/-- an int or a reference: a value of one slot -/
def am_pop1 (st : List am_V) (f : am_V → List am_V → Option α) : Option α := match st with
  | .inl (.int x) :: r => f (.inl (.int x)) r
  | .inr (some l) :: r => f (.inr (some l)) r
  | _ => none
/-- n values, the first of them the deepest -/
def am_popN : Nat → List am_V → List am_V → (List am_V → List am_V → Option α) → Option α
  | 0, acc, st, f => f acc st
  | n + 1, acc, st, f => am_pop1 st fun v r => am_popN n (v :: acc) r f
/-- few enough left below a call -/
def am_sm (st : List am_V) (x : Option α) : Option α := match st with
  | [] => x | [_] => x | [_, _] => x | [_, _, _] => x | [_, _, _, _] => x
  | _ => none
def am_j (pc : Nat) (off : Int) (f : Nat → Option α) : Option α := match (pc : Int) + off with
  | .ofNat t => f t
  | .negSucc _ => none
def am_get : am_S → Nat → (am_V → Option α) → Option α
  | some v :: _, 0, f => f v
  | _ :: l, n + 1, f => am_get l n f
  | _, _, _ => none
end AmPop
/-- what a store just above leaves of a local: one of two slots is lost -/
def am_k (a : Option am_V) : Option am_V := match a with
  | some (.inl (.double _)) => none
  | some (.inl (.long _)) => none
  | b => b
def am_put : am_S → Nat → Option am_V → am_S
  | [], _, _ => []
  | _ :: l, 0, v => v :: l
  | a :: b :: l, 1, v => am_k a :: v :: l
  | a :: [], 1, _ => [a]
  | a :: l, n + 2, v => a :: am_put l (n + 1) v
/-- a value of two slots -/
def am_put2 (l : am_S) (i : Nat) (v : am_V) : am_S := (am_put l i (some v)).set (i + 1) none
/-- one instruction: K goes on, F ends -/
def am_chk {α : Type} (X : am_X) (l : am_L) (ci : Nat) (x : Option α) : Option α := if am_al X.2.1 l = true ∧ am_kd l = (0, ci, 0) then x else none
def am_arr {α : Type} (X : am_X) (l : am_L) (k a b : Nat) (i : Int32) (n : Nat) (x : Nat → Option α) : Option α := if am_al X.2.1 l = true ∧ am_kd l = (k, a, b) ∧ ¬ (i < 0 ∨ n ≤ i.toNatClampNeg) then x i.toNatClampNeg else none
/-- behind a call: on with the answer, or to the handler, or out -/
def am_bk {α : Type} (z pc : Nat) (ls : am_S) (st : List am_V) (r : Option am_R) (K : Nat → am_S → List am_V → am_M → am_X → Option α) (F : am_R → Option α) : Option α := match r with
  | none => none
  | some (.inl v, M, X) => K (pc + 3) ls (v.toList ++ st) M X
  | some (.inr E, M, X) => match am_hd z pc E with
    | none => if am_tr z = true then F (.inr E, M, X) else none
    | some (t, j) => K t (am_put ls j none) [] M X
def am_pc (f : Nat) (x : Int32) : Bool := match f with
  | 0 => true
  | 1 => x == 0 || x == 1
  | 2 => decide (0 ≤ x ∧ x ≤ 65535)
  | _ => false
def am_inv {α : Type} (call : Nat → List am_V → am_M → am_X → Option am_R) (z kd y pc : Nat) (ls : am_S) (st : List am_V) (M : am_M) (X : am_X) (K : Nat → am_S → List am_V → am_M → am_X → Option α) (F : am_R → Option α) : Option α := match kd with
  | 0 => am_popN (am_na y) [] st fun as st => am_popP st fun l st => am_sm st (am_chk X l (am_own y) (am_bk z pc ls st (call y (.inr (some l) :: as) M X) K F))
  | 1 => am_popN (am_na y) [] st fun as st => am_sm st (am_bk z pc ls st (call y as M X) K F)
  | 5 => am_popP st fun _ st => am_sm st (K (pc + 3) ls st M X)
  | 6 => am_popI st fun y st => am_popI st fun x st => am_sm st (K (pc + 3) ls (.inl (.int (if y < x then y else x)) :: st) M X)
  | 8 => am_popD st fun x st => am_sm st (if x &&& 0x7fffffffffffffff ≤ 0x7ff0000000000000 then K (pc + 3) ls (.inl (.long x.toInt64) :: st) M X else none)
  | 9 => am_popF st fun x st => am_sm st (if x &&& 0x7fffffff ≤ 0x7f800000 then K (pc + 3) ls (.inl (.int x.toInt32) :: st) M X else none)
  | 10 => am_popP st fun l st => am_sm st (if l = (50, 0, 0) then am_o2 X.2.2.2.2.2 (fun t => K (pc + 3) ls (.inl (.int (nI t.length)) :: st) M X) none else none)
  | 11 => am_popI st fun i st => am_popP st fun l st => am_sm st (if l = (50, 0, 0) then am_o2 X.2.2.2.2.2 (fun t => if ¬ (i < 0 ∨ t.length ≤ i.toNatClampNeg) then K (pc + 3) ls (.inl (.int (nI (t.getD i.toNatClampNeg 0))) :: st) M X else none) none else none)
  | 7 => am_popI st fun n st => am_popI st fun dp st => am_popP st fun a st => am_popI st fun sp st => am_popP st fun a0 st => am_sm st (
      if a ≠ a0 ∧ am_al X.2.1 a = true ∧ am_al X.2.1 a0 = true ∧ (am_kd a).1 = 1 ∧ (am_kd a0).1 = 1 ∧ ¬ sp < 0 ∧ ¬ dp < 0 ∧ ¬ n < 0 ∧ sp.toNatClampNeg + n.toNatClampNeg ≤ (am_kd a0).2.1 ∧ dp.toNatClampNeg + n.toNatClampNeg ≤ (am_kd a).2.1
      then K (pc + 3) ls st (am_cp M a0 a sp.toNatClampNeg dp.toNatClampNeg n.toNatClampNeg) X else none)
  | _ => none
/-- the phase behind the cell of this number: the last one ends it -/
def am_nph (c : Nat) : Option Nat := if c + 1 = 701 then none else some (c + 1)
/-- a new cell of this kind, as many slots -/
def am_nu {α : Type} (X : am_X) (k : Nat × Nat × Nat) (n : Nat) (f : am_L → am_X → Option α) : Option α := match X.2.1 with
  | none => none
  | some c => if am_ok (am_lo c) = true ∧ am_ad (am_lo c) = c ∧ am_kd (am_lo c) = k ∧ (am_lo c).1 ≠ 0 then f (am_lo c) (X.1, am_nph c, X.2.2.1 + 1, X.2.2.2.1 + n, X.2.2.2.2) else none
/-- a call with a String at hand: it is let go behind the call -/
def am_bs {α : Type} (pc : Nat) (ls : am_S) (st : List am_V) (r : Option am_R) (n : Nat × Nat) (K : Nat → am_S → List am_V → am_M → am_X → Option α) : Option α := match r with
  | some (.inl (some (.inl v)), M, X) => K pc ls (.inl v :: st) M (X.1, X.2.1, X.2.2.1 + n.1, X.2.2.2.1 + n.2, X.2.2.2.2.1, none)
  | _ => none
/-- the state with this text at hand -/
def am_hx (X : am_X) (t : List Nat) : am_X := (X.1, X.2.1, X.2.2.1, X.2.2.2.1, X.2.2.2.2.1, some t)
def am_d10 (n : Nat) : List Nat := if n < 10 then [48 + n] else [48 + n / 10, 48 + n % 10]
/-- x modulo n, not below 0 -/
def am_mo (x n : Int32) : Int32 := if x - x / n * n < 0 then x - x / n * n + n else x - x / n * n
def am_da (x : Int32) (k n : Nat) : List Nat := am_d10 (am_mo (x >>> (nI k &&& 31)) (nI n)).toNatClampNeg
/-- the two texts that are put together out of an int -/
def am_tx (pc : Nat) (x : Int32) : List Nat :=
  if pc = 324 then am_lit 0 ++ am_da x 3 12 ++ am_lit 1 ++ am_da x 5 7 ++ am_lit 2 ++ am_da x 7 10 else am_lit 3 ++ am_da x 3 6 ++ am_lit 4 ++ am_da x 5 26 ++ am_lit 5 ++ am_da x 4 4
def am_n15 (l : List am_V) : Bool := l.all fun v => match v with
  | .inr (some l) => l.1 != 1 && l.1 != 50
  | _ => true
/-- a String constant is loaded and goes at once to a call; pc is behind it -/
def am_sc {α : Type} (call : Nat → List am_V → am_M → am_X → Option am_R) (z pc k : Nat) (ls : am_S) (st : List am_V) (M : am_M) (X : am_X) (K : Nat → am_S → List am_V → am_M → am_X → Option α) : Option α := match am_cd z pc with
  | some (.invokestatic ix) => match am_ml (am_own z) ix with
    | some (1, y) => if X.2.1 = none ∧ X.2.2.2.2.2 = none ∧ am_tr z = true ∧ 1 ≤ am_na y then am_popN (am_na y - 1) [] st fun as st => am_sm st (if am_n15 as = true ∧ am_n15 st = true then am_bs (pc + 3) ls st (call y (as ++ [.inr (some (50, 0, 0))]) M (am_hx X (am_lit k))) (0, 0) K else none) else none
    | _ => none
  | _ => none
/-- a text is put together and goes to a call: a StringBuilder with its 16 bytes, a String with its own -/
def am_ca {α : Type} (call : Nat → List am_V → am_M → am_X → Option am_R) (z pc : Nat) (ls : am_S) (st : List am_V) (M : am_M) (X : am_X) (K : Nat → am_S → List am_V → am_M → am_X → Option α) : Option α :=
  if z = am_chz ∧ (pc = 324 ∨ pc = 386) ∧ X.2.1 = none ∧ X.2.2.2.2.2 = none then am_get ls 1 fun v => am_asI v fun x => am_popP st fun l st => am_sm st (if l = (3, 0, 0) ∧ st.isEmpty = true then am_bs 449 ls st (call am_rdz [.inr (some l), .inr (some (50, 0, 0))] M (am_hx X (am_tx pc x))) (10, 2400) K else none) else none
/-- what is left when another object is made: the script -/
def am_wp (M : am_M) : am_M := fun l j => if l.1 = 0 then M l j else 0
def am_wr (ls : am_S) : am_S := ls.map fun v => match v with
  | some (.inr (some l)) => if l.1 = 1 ∨ l.1 = 50 then none else some (.inr (some l))
  | v => v
def am_wl (ls : am_S) : am_S := ls.map fun v => match v with
  | some (.inr (some l)) => if l.1 = 0 then some (.inr (some l)) else none
  | v => v
def am_bump (X : am_X) : am_X := (X.1, X.2.1, X.2.2.1 + 1, X.2.2.2.1 + 6, X.2.2.2.2)
def am_ex {α : Type} (call : Nat → List am_V → am_M → am_X → Option am_R) (z : Nat) (i : Instr) (pc : Nat) (ls : am_S) (st : List am_V) (M : am_M) (X : am_X) (K : Nat → am_S → List am_V → am_M → am_X → Option α) (F : am_R → Option α) : Option α := match i with
  | .lload_n j => am_get ls j.val fun v => am_asJ v fun x => K (pc + 1) ls (.inl (.long x) :: st) M X
  | .lload j => am_get ls j fun v => am_asJ v fun x => K (pc + 2) ls (.inl (.long x) :: st) M X
  | .lstore_n j => am_popJ st fun x st => if j.val + 1 < ls.length then K (pc + 1) (am_put2 ls j.val (.inl (.long x))) st M X else none
  | .lstore j => am_popJ st fun x st => if j + 1 < ls.length then K (pc + 2) (am_put2 ls j (.inl (.long x))) st M X else none
  | .iload_n j => am_get ls j.val fun v => am_asI v fun x => K (pc + 1) ls (.inl (.int x) :: st) M X
  | .iload j => am_get ls j fun v => am_asI v fun x => K (pc + 2) ls (.inl (.int x) :: st) M X
  | .aload_n j => am_get ls j.val fun v => am_asP v fun l => K (pc + 1) ls (.inr (some l) :: st) M X
  | .aload j => am_get ls j fun v => am_asP v fun l => K (pc + 2) ls (.inr (some l) :: st) M X
  | .fload j => am_get ls j fun v => am_asF v fun x => K (pc + 2) ls (.inl (.float x) :: st) M X
  | .dload j => am_get ls j fun v => am_asD v fun x => K (pc + 2) ls (.inl (.double x) :: st) M X
  | .istore_n j => am_popI st fun x st => if j.val < ls.length then K (pc + 1) (am_put ls j.val (some (.inl (.int x)))) st M X else none
  | .istore j => am_popI st fun x st => if j < ls.length then K (pc + 2) (am_put ls j (some (.inl (.int x)))) st M X else none
  | .astore_n j => am_popP st fun l st => if j.val < ls.length then K (pc + 1) (am_put ls j.val (some (.inr (some l)))) st M X else none
  | .astore j => am_popP st fun l st => if j < ls.length then K (pc + 2) (am_put ls j (some (.inr (some l)))) st M X else none
  | .fstore j => am_popF st fun x st => if j < ls.length then K (pc + 2) (am_put ls j (some (.inl (.float x)))) st M X else none
  | .dstore j => am_popD st fun x st => if j + 1 < ls.length then K (pc + 2) (am_put2 ls j (.inl (.double x))) st M X else none
  | .iinc j c => am_get ls j fun v => am_asI v fun x => K (pc + 3) (am_put ls j (some (.inl (.int (x + Int32.ofInt c))))) st M X
  | .iconst c => K (pc + 1) ls (.inl (.int (Int32.ofInt c)) :: st) M X
  | .bipush c => K (pc + 2) ls (.inl (.int (Int8.ofInt c).toInt32) :: st) M X
  | .sipush c => K (pc + 3) ls (.inl (.int (Int16.ofInt c).toInt32) :: st) M X
  | .ldc ix => am_o2 (am_kc (am_own z) ix) (fun v => K (pc + 2) ls (.inl (.int v) :: st) M X) (am_o2 (am_kf (am_own z) ix) (fun v => K (pc + 2) ls (.inl (.float v) :: st) M X) none)
  | .ldc_w ix => am_o2 (am_kc (am_own z) ix) (fun v => K (pc + 3) ls (.inl (.int v) :: st) M X) (am_o2 (am_kt (am_own z) ix) (fun k => am_sc call z (pc + 3) k ls st M X K) none)
  | .ldc2_w ix => am_o2 (am_kl (am_own z) ix) (fun v => K (pc + 3) ls (.inl (.long v) :: st) M X) (am_o2 (am_kd2 (am_own z) ix) (fun v => K (pc + 3) ls (.inl (.double v) :: st) M X) none)
  | .lconst c => K (pc + 1) ls (.inl (.long (Int64.ofNat (c : Nat))) :: st) M X
  | .iadd => am_popI st fun y st => am_popI st fun x st => K (pc + 1) ls (.inl (.int (x + y)) :: st) M X
  | .isub => am_popI st fun y st => am_popI st fun x st => K (pc + 1) ls (.inl (.int (x - y)) :: st) M X
  | .imul => am_popI st fun y st => am_popI st fun x st => K (pc + 1) ls (.inl (.int (x * y)) :: st) M X
  | .ladd => am_popJ st fun y st => am_popJ st fun x st => K (pc + 1) ls (.inl (.long (x + y)) :: st) M X
  | .lmul => am_popJ st fun y st => am_popJ st fun x st => K (pc + 1) ls (.inl (.long (x * y)) :: st) M X
  | .ixor => am_popI st fun y st => am_popI st fun x st => K (pc + 1) ls (.inl (.int (x ^^^ y)) :: st) M X
  | .iand => am_popI st fun y st => am_popI st fun x st => K (pc + 1) ls (.inl (.int (x &&& y)) :: st) M X
  | .ior => am_popI st fun y st => am_popI st fun x st => K (pc + 1) ls (.inl (.int (x ||| y)) :: st) M X
  | .ishl => am_popI st fun y st => am_popI st fun x st => K (pc + 1) ls (.inl (.int (x <<< (y &&& 31))) :: st) M X
  | .ishr => am_popI st fun y st => am_popI st fun x st => K (pc + 1) ls (.inl (.int (x >>> (y &&& 31))) :: st) M X
  | .idiv => am_popI st fun y st => am_popI st fun x st => if y = 0 then none else K (pc + 1) ls (.inl (.int (x / y)) :: st) M X
  | .irem => am_popI st fun y st => am_popI st fun x st => if y = 0 then none else K (pc + 1) ls (.inl (.int (x - x / y * y)) :: st) M X
  | .i2l => am_popI st fun x st => K (pc + 1) ls (.inl (.long x.toInt64) :: st) M X
  | .i2c => am_popI st fun x st => K (pc + 1) ls (.inl (.int (x.toUInt32 % 65536).toInt32) :: st) M X
  | .i2f => am_popI st fun x st => K (pc + 1) ls (.inl (.float (FP.i2f x)) :: st) M X
  | .i2d => am_popI st fun x st => K (pc + 1) ls (.inl (.double (FP.i2d x)) :: st) M X
  | .f2d => am_popF st fun x st => if FP.f2d x &&& 0x7fffffffffffffff ≤ 0x7ff0000000000000 then K (pc + 1) ls (.inl (.double (FP.f2d x)) :: st) M X else none
  | .fdiv => am_popF st fun y st => am_popF st fun x st => if FP.fdiv x y &&& 0x7fffffff ≤ 0x7f800000 then K (pc + 1) ls (.inl (.float (FP.fdiv x y)) :: st) M X else none
  | .ddiv => am_popD st fun y st => am_popD st fun x st => if FP.ddiv x y &&& 0x7fffffffffffffff ≤ 0x7ff0000000000000 then K (pc + 1) ls (.inl (.double (FP.ddiv x y)) :: st) M X else none
  | .lcmp => am_popJ st fun y st => am_popJ st fun x st => K (pc + 1) ls (.inl (.int (lg_cmp x y)) :: st) M X
  | .fcmp op => am_popF st fun y st => am_popF st fun x st => K (pc + 1) ls (.inl (.int (Op.cmpValue (FP.fcmp x y) op)) :: st) M X
  | .dcmp op => am_popD st fun y st => am_popD st fun x st => K (pc + 1) ls (.inl (.int (Op.cmpValue (FP.dcmp x y) op)) :: st) M X
  | .dup => am_pop1 st fun v st => K (pc + 1) ls (v :: v :: st) M X
  | .pop => am_pop1 st fun _ st => K (pc + 1) ls st M X
  | .dup2 => am_pop1 st fun v st => am_pop1 st fun w st => K (pc + 1) ls (v :: w :: v :: w :: st) M X
  | .dup_x1 => am_pop1 st fun v st => am_pop1 st fun w st => K (pc + 1) ls (v :: w :: v :: st) M X
  | .dup_x2 => am_pop1 st fun v st => am_pop1 st fun w st => am_pop1 st fun u st => K (pc + 1) ls (v :: w :: u :: v :: st) M X
  | .goto o => am_j pc o fun t => K t ls st M X
  | .ifCond .eq o => am_popI st fun x st => am_j pc o fun t => if x = 0 then K t ls st M X else K (pc + 3) ls st M X
  | .ifCond .ne o => am_popI st fun x st => am_j pc o fun t => if x = 0 then K (pc + 3) ls st M X else K t ls st M X
  | .ifCond .lt o => am_popI st fun x st => am_j pc o fun t => if x < 0 then K t ls st M X else K (pc + 3) ls st M X
  | .ifCond .ge o => am_popI st fun x st => am_j pc o fun t => if x < 0 then K (pc + 3) ls st M X else K t ls st M X
  | .ifCond .gt o => am_popI st fun x st => am_j pc o fun t => if 0 < x then K t ls st M X else K (pc + 3) ls st M X
  | .ifCond .le o => am_popI st fun x st => am_j pc o fun t => if 0 < x then K (pc + 3) ls st M X else K t ls st M X
  | .if_icmp .eq o => am_popI st fun y st => am_popI st fun x st => am_j pc o fun t => if x = y then K t ls st M X else K (pc + 3) ls st M X
  | .if_icmp .ne o => am_popI st fun y st => am_popI st fun x st => am_j pc o fun t => if x = y then K (pc + 3) ls st M X else K t ls st M X
  | .if_icmp .lt o => am_popI st fun y st => am_popI st fun x st => am_j pc o fun t => if x < y then K t ls st M X else K (pc + 3) ls st M X
  | .if_icmp .ge o => am_popI st fun y st => am_popI st fun x st => am_j pc o fun t => if x < y then K (pc + 3) ls st M X else K t ls st M X
  | .if_icmp .gt o => am_popI st fun y st => am_popI st fun x st => am_j pc o fun t => if y < x then K t ls st M X else K (pc + 3) ls st M X
  | .if_icmp .le o => am_popI st fun y st => am_popI st fun x st => am_j pc o fun t => if y < x then K (pc + 3) ls st M X else K t ls st M X
  | .tableswitch d lo hi os => am_popI st fun x st => if x.toInt < lo ∨ hi < x.toInt then am_j pc d fun t => K t ls st M X else (match os[(x.toInt - lo).toNat]? with
    | some o => am_j pc o fun t => K t ls st M X
    | none => none)
  | .lookupswitch d ps => am_popI st fun x st => if (ps.toList.zip (ps.toList.drop 1)).all (fun (a, next) => a.1 < next.1) = true then am_j pc (Op.lookupswitch.offset ps.toList d x.toInt) fun t => K t ls st M X else none
  | .getfield ix => match am_fl (am_own z) ix with
    | none => none
    | some (ci, j) => am_popP st fun l st => am_chk X l ci (if am_fk ci j = 3 then K (pc + 3) ls (.inr (X.1 l j) :: st) M X else K (pc + 3) ls (.inl (.int (M l j)) :: st) M X)
  | .putfield ix => match am_fl (am_own z) ix with
    | none => none
    | some (ci, j) => if am_ff ci j = true ∧ ¬ (am_ini z = true ∧ am_own z = ci) then none else
      if am_fk ci j = 3 then am_popP st fun v st => am_popP st fun l st => am_chk X l ci (if am_al X.2.1 v = true then K (pc + 3) ls st M (am_setT X.1 l j (some v), X.2) else none)
      else am_popI st fun x st => am_popP st fun l st => am_chk X l ci (if am_pc (am_fk ci j) x = true then K (pc + 3) ls st (am_set M l j x) X else none)
  | .iaload => am_popI st fun i st => am_popP st fun l st => if l.1 = 0 then (if l = (0, 0, 0) ∧ ¬ (i < 0 ∨ (M (0, 0, 1) 0).toNatClampNeg ≤ i.toNatClampNeg) then K (pc + 1) ls (.inl (.int (M (0, 0, 0) i.toNatClampNeg)) :: st) M X else none)
      else am_arr X l 1 (am_kd l).2.1 0 i (am_kd l).2.1 fun j => K (pc + 1) ls (.inl (.int (M l j)) :: st) M X
  | .iastore => am_popI st fun x st => am_popI st fun i st => am_popP st fun l st => am_arr X l 1 (am_kd l).2.1 0 i (am_kd l).2.1 fun j => K (pc + 1) ls st (am_set M l j x) X
  | .caload => am_popI st fun i st => am_popP st fun l st => am_arr X l 2 (am_kd l).2.1 0 i (am_kd l).2.1 fun j => K (pc + 1) ls (.inl (.int (M l j)) :: st) M X
  | .castore => am_popI st fun x st => am_popI st fun i st => am_popP st fun l st => am_arr X l 2 (am_kd l).2.1 0 i (am_kd l).2.1 fun j => K (pc + 1) ls st (am_set M l j (vp_nar .char x)) X
  | .aaload => am_popI st fun i st => am_popP st fun l st => am_arr X l 3 (am_kd l).2.1 (am_kd l).2.2 i (am_kd l).2.2 fun j => K (pc + 1) ls (.inr (X.1 l j) :: st) M X
  | .aastore => am_popP st fun v st => am_popI st fun i st => am_popP st fun l st => am_arr X l 3 (am_kd l).2.1 (am_kd l).2.2 i (am_kd l).2.2 fun j => am_chk X v (am_kd l).2.1 (K (pc + 1) ls st M (am_setT X.1 l j (some v), X.2))
  | .laload => am_popI st fun i st => am_popP st fun l st => if l = (1, 0, 0) ∧ ¬ (i < 0 ∨ 13 ≤ i.toNatClampNeg) then am_o2 X.2.2.2.2.1 (fun f => K (pc + 1) ls (.inl (.long (f i.toNatClampNeg)) :: st) M X) none else none
  | .lastore => am_popJ st fun x st => am_popI st fun i st => am_popP st fun l st => if l = (1, 0, 0) ∧ ¬ (i < 0 ∨ 13 ≤ i.toNatClampNeg) ∧ X.2.2.2.2.2 = none then am_o2 X.2.2.2.2.1 (fun f => K (pc + 1) ls st M (X.1, X.2.1, X.2.2.1, X.2.2.2.1, some (fun j => if j = i.toNatClampNeg then x else f j), none)) none else none
  | .arraylength => am_popP st fun l st => if l = (0, 0, 0) then K (pc + 1) ls (.inl (.int (M (0, 0, 1) 0)) :: st) M X else none
  | .invokevirtual ix => match am_ml (am_own z) ix with
    | some (0, y) => am_inv call z 0 y pc ls st M X K F
    | some (10, y) => am_inv call z 10 y pc ls st M X K F
    | some (11, y) => am_inv call z 11 y pc ls st M X K F
    | _ => none
  | .invokestatic ix => match am_ml (am_own z) ix with
    | some (1, y) => am_inv call z 1 y pc ls st M X K F
    | some (4, y) => am_inv call z 1 y pc ls st M X K F
    | some (6, y) => am_inv call z 6 y pc ls st M X K F
    | some (7, y) => am_inv call z 7 y pc ls st M X K F
    | some (8, y) => am_inv call z 8 y pc ls st M X K F
    | some (9, y) => am_inv call z 9 y pc ls st M X K F
    | _ => none
  | .invokespecial ix => match am_ml (am_own z) ix with
    | some (2, y) => am_inv call z 0 y pc ls st M X K F
    | some (3, y) => am_inv call z 0 y pc ls st M X K F
    | some (5, y) => am_inv call z 5 y pc ls st M X K F
    | _ => none
  | .new ix => match am_nw (am_own z) ix with
    | some (.inl ci) => if z = 227 ∧ X.2.1 = none ∧ st = [] then K pc (am_wl ls) [] (am_wp M) (fun _ _ => none, some 0, X.2.2.1, X.2.2.2.1, none, none) else am_nu X (0, ci, 0) (am_cN ci) fun l X => K (pc + 3) ls (.inr (some l) :: st) M X
    | some (.inr (E, ic)) => if am_cd z (pc + 3) = some .dup ∧ am_cd z (pc + 4) = some (.invokespecial ic) ∧ am_cd z (pc + 7) = some .athrow ∧ X.2.1 = none ∧ am_tr z = true then am_sm st (F (.inr E, M, am_bump X)) else none
    | none => am_ca call z pc ls st M X K
  | .newarray .int => am_popI st fun c st => if c < 0 then none else am_nu X (1, c.toNatClampNeg, 0) c.toNatClampNeg fun l X => K (pc + 2) ls (.inr (some l) :: st) M X
  | .newarray .char => am_popI st fun c st => if c < 0 then none else am_nu X (2, c.toNatClampNeg, 0) c.toNatClampNeg fun l X => K (pc + 2) ls (.inr (some l) :: st) M X
  | .newarray .long => am_popI st fun c st => if c = 13 ∧ z = 227 ∧ X.2.1 = none ∧ X.2.2.2.2.1 = none ∧ X.2.2.2.2.2 = none ∧ st = [] then K (pc + 2) (am_wr ls) [.inr (some (1, 0, 0))] M (X.1, none, X.2.2.1 + 1, X.2.2.2.1 + 13, some (fun _ => 0), none) else none
  | .anewarray ix => match am_aw (am_own z) ix with
    | some ci => am_popI st fun c st => if c < 0 then none else am_nu X (3, ci, c.toNatClampNeg) c.toNatClampNeg fun l X => K (pc + 3) ls (.inr (some l) :: st) M X
    | _ => none
  | .return_ => match st, am_rt z with
    | [], 0 => F (.inl none, M, X)
    | _, _ => none
  | .ireturn => match st, am_rt z with
    | [.inl (.int x)], 1 => F (.inl (some (.inl (.int x))), M, X)
    | [.inl (.int x)], 2 => if am_pc 1 x = true then F (.inl (some (.inl (.int x))), M, X) else none
    | [.inl (.int x)], 3 => if am_pc 2 x = true then F (.inl (some (.inl (.int x))), M, X) else none
    | _, _ => none
  | .lreturn => match st, am_rt z with
    | [.inl (.long x)], 7 => F (.inl (some (.inl (.long x))), M, X)
    | _, _ => none
  | .areturn => match st, am_rt z with
    | [.inr (some l)], 6 => F (.inl (some (.inr (some l))), M, X)
    | _, _ => none
  | .freturn => match st, am_rt z with
    | [.inl (.float x)], 4 => F (.inl (some (.inl (.float x))), M, X)
    | _, _ => none
  | .dreturn => match st, am_rt z with
    | [.inl (.double x)], 5 => F (.inl (some (.inl (.double x))), M, X)
    | _, _ => none
  | _ => none
def am_run (call : Nat → List am_V → am_M → am_X → Option am_R) (z : Nat) : Nat → Nat → am_S → List am_V → am_M → am_X → Option am_R
  | 0, _, _, _, _, _ => none
  | n + 1, pc, ls, st, M, X => match am_cd z pc with
    | none => none
    | some i => am_ex call z i pc ls st M X (am_run call z n) some
end
section
/-! THE ABSTRACT MACHINE'S RUNS: am_rn goes to the end of a method, am_ev is a call at a depth -/
abbrev am_N : Type := (Nat × am_S × List am_V × am_M × am_X) ⊕ am_R
section AmB
variable {α β : Type}
theorem am_ite_b {c : Prop} [Decidable c] {a b : Option α} {g : α → Option β} : (if c then a else b).bind g = if c then a.bind g else b.bind g := by split <;> rfl
theorem am_asI_b {v : am_V} {f : Int32 → Option α} {g : α → Option β} : (am_asI v f).bind g = am_asI v (fun x => (f x).bind g) := by unfold am_asI; split <;> rfl
theorem am_o2_b {γ : Type} {o : Option γ} {f : γ → Option α} {x : Option α} {g : α → Option β} : (am_o2 o f x).bind g = am_o2 o (fun t => (f t).bind g) (x.bind g) := by unfold am_o2; split <;> rfl
theorem am_asJ_b {v : am_V} {f : Int64 → Option α} {g : α → Option β} : (am_asJ v f).bind g = am_asJ v (fun x => (f x).bind g) := by unfold am_asJ; split <;> rfl
theorem am_asF_b {v : am_V} {f : UInt32 → Option α} {g : α → Option β} : (am_asF v f).bind g = am_asF v (fun x => (f x).bind g) := by unfold am_asF; split <;> rfl
theorem am_asD_b {v : am_V} {f : UInt64 → Option α} {g : α → Option β} : (am_asD v f).bind g = am_asD v (fun x => (f x).bind g) := by unfold am_asD; split <;> rfl
theorem am_asP_b {v : am_V} {f : am_L → Option α} {g : α → Option β} : (am_asP v f).bind g = am_asP v (fun x => (f x).bind g) := by unfold am_asP; split <;> rfl
theorem am_popI_b {v : List am_V} {f : Int32 → List am_V → Option α} {g : α → Option β} : (am_popI v f).bind g = am_popI v (fun x r => (f x r).bind g) := by unfold am_popI; split <;> rfl
theorem am_popJ_b {v : List am_V} {f : Int64 → List am_V → Option α} {g : α → Option β} : (am_popJ v f).bind g = am_popJ v (fun x r => (f x r).bind g) := by unfold am_popJ; split <;> rfl
theorem am_popF_b {v : List am_V} {f : UInt32 → List am_V → Option α} {g : α → Option β} : (am_popF v f).bind g = am_popF v (fun x r => (f x r).bind g) := by unfold am_popF; split <;> rfl
theorem am_popD_b {v : List am_V} {f : UInt64 → List am_V → Option α} {g : α → Option β} : (am_popD v f).bind g = am_popD v (fun x r => (f x r).bind g) := by unfold am_popD; split <;> rfl
theorem am_popP_b {v : List am_V} {f : am_L → List am_V → Option α} {g : α → Option β} : (am_popP v f).bind g = am_popP v (fun x r => (f x r).bind g) := by unfold am_popP; split <;> rfl
theorem am_pop1_b {v : List am_V} {f : am_V → List am_V → Option α} {g : α → Option β} : (am_pop1 v f).bind g = am_pop1 v (fun x r => (f x r).bind g) := by unfold am_pop1; split <;> rfl
theorem am_popN_b {f : List am_V → List am_V → Option α} {g : α → Option β} : ∀ (n : Nat) (acc v : List am_V), (am_popN n acc v f).bind g = am_popN n acc v (fun x r => (f x r).bind g)
  | 0, _, _ => rfl
  | n + 1, acc, v => by
    unfold am_popN
    rw [am_pop1_b]
    congr 1
    funext x r
    exact am_popN_b n (x :: acc) r
theorem am_sm_b {st : List am_V} {x : Option α} {g : α → Option β} : (am_sm st x).bind g = am_sm st (x.bind g) := by unfold am_sm; split <;> rfl
theorem am_j_b {pc : Nat} {o : Int} {f : Nat → Option α} {g : α → Option β} : (am_j pc o f).bind g = am_j pc o (fun t => (f t).bind g) := by unfold am_j; split <;> rfl
theorem am_get_b {f : am_V → Option α} {g : α → Option β} : ∀ (ls : am_S) (i : Nat), (am_get ls i f).bind g = am_get ls i (fun v => (f v).bind g)
  | [], 0 => rfl
  | [], _ + 1 => rfl
  | none :: _, 0 => rfl
  | some _ :: _, 0 => rfl
  | none :: l, n + 1 => am_get_b l n
  | some _ :: l, n + 1 => am_get_b l n
theorem am_chk_b {X : am_X} {l : am_L} {ci : Nat} {x : Option α} {g : α → Option β} : (am_chk X l ci x).bind g = am_chk X l ci (x.bind g) := by unfold am_chk; split <;> rfl
theorem am_arr_b {X : am_X} {l : am_L} {k a b : Nat} {i : Int32} {n : Nat} {x : Nat → Option α} {g : α → Option β} : (am_arr X l k a b i n x).bind g = am_arr X l k a b i n (fun j => (x j).bind g) := by unfold am_arr; split <;> rfl
theorem am_nu_b {X : am_X} {k : Nat × Nat × Nat} {n : Nat} {x : am_L → am_X → Option α} {g : α → Option β} : (am_nu X k n x).bind g = am_nu X k n (fun l Y => (x l Y).bind g) := by
  unfold am_nu
  split
  · rfl
  · split <;> rfl
theorem am_bk_b {z pc : Nat} {ls : am_S} {st : List am_V} {r : Option am_R} {K : Nat → am_S → List am_V → am_M → am_X → Option α} {F : am_R → Option α} {g : α → Option β} : (am_bk z pc ls st r K F).bind g = am_bk z pc ls st r (fun a b c d e => (K a b c d e).bind g) (fun r => (F r).bind g) := by
  unfold am_bk
  split
  · rfl
  · rfl
  · split
    · split <;> rfl
    · rfl
theorem am_inv_b {call : Nat → List am_V → am_M → am_X → Option am_R} {z kd y pc : Nat} {ls : am_S} {st : List am_V} {M : am_M} {X : am_X} {K : Nat → am_S → List am_V → am_M → am_X → Option α} {F : am_R → Option α} {g : α → Option β} : (am_inv call z kd y pc ls st M X K F).bind g = am_inv call z kd y pc ls st M X (fun a b c d e => (K a b c d e).bind g) (fun r => (F r).bind g) := by
  unfold am_inv
  split <;> simp only [am_popN_b, am_popP_b, am_popI_b, am_popD_b, am_popF_b, am_o2_b, am_sm_b, am_chk_b, am_bk_b, am_ite_b, Option.bind_none]
theorem am_bs_b {pc : Nat} {ls : am_S} {st : List am_V} {r : Option am_R} {n : Nat × Nat} {K : Nat → am_S → List am_V → am_M → am_X → Option α} {g : α → Option β} : (am_bs pc ls st r n K).bind g = am_bs pc ls st r n (fun a b c d e => (K a b c d e).bind g) := by
  unfold am_bs
  split <;> rfl
theorem am_sc_b {call : Nat → List am_V → am_M → am_X → Option am_R} {z pc k : Nat} {ls : am_S} {st : List am_V} {M : am_M} {X : am_X} {K : Nat → am_S → List am_V → am_M → am_X → Option α} {g : α → Option β} : (am_sc call z pc k ls st M X K).bind g = am_sc call z pc k ls st M X (fun a b c d e => (K a b c d e).bind g) := by
  unfold am_sc
  split
  · split
    · simp only [am_ite_b, am_popN_b, am_sm_b, am_bs_b, Option.bind_none]
    · rfl
  · rfl
theorem am_ca_b {call : Nat → List am_V → am_M → am_X → Option am_R} {z pc : Nat} {ls : am_S} {st : List am_V} {M : am_M} {X : am_X} {K : Nat → am_S → List am_V → am_M → am_X → Option α} {g : α → Option β} : (am_ca call z pc ls st M X K).bind g = am_ca call z pc ls st M X (fun a b c d e => (K a b c d e).bind g) := by
  unfold am_ca
  simp only [am_ite_b, am_get_b, am_asI_b, am_popP_b, am_sm_b, am_bs_b, Option.bind_none]
set_option maxHeartbeats 4000000 in
theorem am_ex_b {call : Nat → List am_V → am_M → am_X → Option am_R} {z : Nat} {i : Instr} {pc : Nat} {ls : am_S} {st : List am_V} {M : am_M} {X : am_X} {K : Nat → am_S → List am_V → am_M → am_X → Option α} {F : am_R → Option α} {g : α → Option β} : (am_ex call z i pc ls st M X K F).bind g = am_ex call z i pc ls st M X (fun a b c d e => (K a b c d e).bind g) (fun r => (F r).bind g) := by
  unfold am_ex
  split <;> (try simp only [am_asI_b, am_asJ_b, am_asF_b, am_asD_b, am_asP_b, am_o2_b, am_popI_b, am_popJ_b, am_popF_b, am_popD_b, am_popP_b, am_pop1_b, am_popN_b, am_sm_b, am_j_b, am_get_b, am_chk_b, am_arr_b, am_nu_b, am_bk_b, am_inv_b, am_sc_b, am_ca_b, am_ite_b, Option.bind_none]) <;>
    (try (split <;> simp only [am_asI_b, am_asJ_b, am_asF_b, am_asD_b, am_asP_b, am_o2_b, am_popI_b, am_popJ_b, am_popF_b, am_popD_b, am_popP_b, am_pop1_b, am_popN_b, am_sm_b, am_j_b, am_get_b, am_chk_b, am_arr_b, am_nu_b, am_bk_b, am_inv_b, am_sc_b, am_ca_b, am_ite_b, Option.bind_none, Option.bind_some])) 
  congr 1; funext x r
  congr 1
  split <;> simp only [am_j_b, Option.bind_none]
end AmB
section AmR
variable {call : Nat → List am_V → am_M → am_X → Option am_R} {z : Nat}
def am_el {α : Type} (K : Nat → am_S → List am_V → am_M → am_X → Option α) (F : am_R → Option α) (q : am_N) : Option α := match q with
  | .inl (a, b, c, d, e) => K a b c d e
  | .inr r => F r
/-- one step, as a note of where it leads -/
def am_st (call : Nat → List am_V → am_M → am_X → Option am_R) (z : Nat) (i : Instr) (pc : Nat) (ls : am_S) (st : List am_V) (M : am_M) (X : am_X) : Option am_N := am_ex call z i pc ls st M X (fun a b c d e => some (.inl (a, b, c, d, e))) (fun r => some (.inr r))
theorem am_ex_st {α : Type} {i : Instr} {pc : Nat} {ls : am_S} {st : List am_V} {M : am_M} {X : am_X} {K : Nat → am_S → List am_V → am_M → am_X → Option α} {F : am_R → Option α} : am_ex call z i pc ls st M X K F = (am_st call z i pc ls st M X).bind (am_el K F) :=
  (am_ex_b (K := fun a b c d e => some (.inl (a, b, c, d, e))) (F := fun r => some (.inr r)) (g := am_el K F)).symm
theorem am_run_one : ∀ (n pc : Nat) (ls : am_S) (st : List am_V) (M : am_M) (X : am_X) (r : am_R), am_run call z n pc ls st M X = some r → am_run call z (n + 1) pc ls st M X = some r
  | 0, _, _, _, _, _, _, h => by cases h
  | n + 1, pc, ls, st, M, X, r, h => by
    unfold am_run at h ⊢
    cases hc : am_cd z pc with
    | none => rw [hc] at h; cases h
    | some i =>
      rw [hc] at h
      dsimp only at h ⊢
      rw [am_ex_st] at h ⊢
      cases hs : am_st call z i pc ls st M X with
      | none => rw [hs] at h; cases h
      | some q =>
        rw [hs] at h
        cases q with
        | inl c =>
          obtain ⟨a, b, c, d, e⟩ := c
          exact am_run_one n a b c d e r h
        | inr r' => exact h
theorem am_run_mono {n k pc : Nat} {ls : am_S} {st : List am_V} {M : am_M} {X : am_X} {r : am_R} (h : am_run call z n pc ls st M X = some r) : am_run call z (n + k) pc ls st M X = some r := by
  induction k with
  | zero => exact h
  | succ k ih => exact am_run_one _ _ _ _ _ _ _ ih
theorem am_run_fun {n k pc : Nat} {ls : am_S} {st : List am_V} {M : am_M} {X : am_X} {r r' : am_R} (h : am_run call z n pc ls st M X = some r) (h' : am_run call z k pc ls st M X = some r') : r = r' := by
  have h1 := am_run_mono (k := k) h
  have h2 := am_run_mono (k := n) h'
  rw [Nat.add_comm] at h2
  exact Option.some.inj (h1.symm.trans h2)
noncomputable def am_rn (call : Nat → List am_V → am_M → am_X → Option am_R) (z : Nat) (pc : Nat) (ls : am_S) (st : List am_V) (M : am_M) (X : am_X) : Option am_R :=
  @dite _ (∃ n r, am_run call z n pc ls st M X = some r) (Classical.propDecidable _) (fun h => some h.choose_spec.choose) (fun _ => none)
theorem am_rn_iff {pc : Nat} {ls : am_S} {st : List am_V} {M : am_M} {X : am_X} {r : am_R} : am_rn call z pc ls st M X = some r ↔ ∃ n, am_run call z n pc ls st M X = some r := by
  unfold am_rn
  by_cases h : ∃ n r, am_run call z n pc ls st M X = some r
  · rw [dif_pos h]
    have h2 := h.choose_spec.choose_spec
    constructor
    · intro h3
      rw [← Option.some.inj h3]
      exact ⟨_, h2⟩
    · rintro ⟨n, h3⟩
      rw [am_run_fun h2 h3]
  · rw [dif_neg h]
    constructor
    · intro h3; cases h3
    · rintro ⟨n, h3⟩
      exact absurd ⟨n, r, h3⟩ h
theorem am_rn_eq {i : Instr} {pc : Nat} {ls : am_S} {st : List am_V} {M : am_M} {X : am_X} (hc : am_cd z pc = some i) : am_rn call z pc ls st M X = am_ex call z i pc ls st M X (am_rn call z) some := by
  have key : ∀ r, am_rn call z pc ls st M X = some r ↔ am_ex call z i pc ls st M X (am_rn call z) some = some r := by
    intro r
    rw [am_rn_iff, am_ex_st]
    cases hs : am_st call z i pc ls st M X with
    | none =>
      constructor
      · rintro ⟨n, h⟩
        cases n with
        | zero => cases h
        | succ n =>
          unfold am_run at h
          rw [hc] at h
          dsimp only at h
          rw [am_ex_st, hs] at h
          cases h
      · intro h; cases h
    | some q =>
      cases q with
      | inl c =>
        obtain ⟨a, b, c, d, e⟩ := c
        show _ ↔ am_rn call z a b c d e = some r
        rw [am_rn_iff]
        constructor
        · rintro ⟨n, h⟩
          cases n with
          | zero => cases h
          | succ n =>
            unfold am_run at h
            rw [hc] at h
            dsimp only at h
            rw [am_ex_st, hs] at h
            exact ⟨n, h⟩
        · rintro ⟨n, h⟩
          refine ⟨n + 1, ?_⟩
          unfold am_run
          rw [hc]
          dsimp only
          rw [am_ex_st, hs]
          exact h
      | inr r' =>
        show _ ↔ some r' = some r
        constructor
        · rintro ⟨n, h⟩
          cases n with
          | zero => cases h
          | succ n =>
            unfold am_run at h
            rw [hc] at h
            dsimp only at h
            rw [am_ex_st, hs] at h
            exact h
        · intro h
          refine ⟨1, ?_⟩
          unfold am_run
          rw [hc]
          dsimp only
          rw [am_ex_st, hs]
          exact h
  cases h : am_ex call z i pc ls st M X (am_rn call z) some with
  | none =>
    cases h2 : am_rn call z pc ls st M X with
    | none => rfl
    | some r => rw [(key r).mp h2] at h; cases h
  | some r => exact (key r).mpr h
end AmR
/-- the locals at a method's entry -/
def am_en0 (z : Nat) (as : List am_V) : am_S := as.map some ++ List.replicate (am_mL z - as.length) none
/-- a call of a method, d levels deep -/
noncomputable def am_ev : Nat → Nat → List am_V → am_M → am_X → Option am_R
  | 0 => fun _ _ _ _ => none
  | d + 1 => fun z as M X => am_rn (am_ev d) z 0 (am_en0 z as) [] M X
theorem am_ev_eq (d z : Nat) (as : List am_V) (M : am_M) (X : am_X) : am_ev (d + 1) z as M X = am_rn (am_ev d) z 0 (am_en0 z as) [] M X := rfl
end
section
/-! ONE INSTRUCTION, A ROW: what am_rn does at it (the rows of each method are laid by a text program behind) -/
section AmRows
variable {call : Nat → List am_V → am_M → am_X → Option am_R} {z pc : Nat} {ls : am_S} {st : List am_V} {M : am_M} {X : am_X}
theorem rn_iconst {c : Int} {v : Int32} (hc : am_cd z pc = some (.iconst c)) (hv : Int32.ofInt c = v) : am_rn call z pc ls st M X = am_rn call z (pc + 1) ls (.inl (.int v) :: st) M X := by subst hv; exact am_rn_eq hc
theorem rn_bipush {c : Int} {v : Int32} (hc : am_cd z pc = some (.bipush c)) (hv : (Int8.ofInt c).toInt32 = v) : am_rn call z pc ls st M X = am_rn call z (pc + 2) ls (.inl (.int v) :: st) M X := by subst hv; exact am_rn_eq hc
theorem rn_sipush {c : Int} {v : Int32} (hc : am_cd z pc = some (.sipush c)) (hv : (Int16.ofInt c).toInt32 = v) : am_rn call z pc ls st M X = am_rn call z (pc + 3) ls (.inl (.int v) :: st) M X := by subst hv; exact am_rn_eq hc
theorem rn_ldc {ix : Nat} {v : Int32} (hc : am_cd z pc = some (.ldc ix)) (hv : am_kc (am_own z) ix = some v) : am_rn call z pc ls st M X = am_rn call z (pc + 2) ls (.inl (.int v) :: st) M X := by
  rw [am_rn_eq hc]
  dsimp only [am_ex]
  rw [hv]
  rfl
theorem rn_lconst {c : Fin 2} {v : Int64} (hc : am_cd z pc = some (.lconst c)) (hv : Int64.ofNat (c : Nat) = v) : am_rn call z pc ls st M X = am_rn call z (pc + 1) ls (.inl (.long v) :: st) M X := by subst hv; exact am_rn_eq hc
theorem rn_iinc {c : Int} {j : Nat} {v : Int32} (hc : am_cd z pc = some (.iinc j c)) (hv : Int32.ofInt c = v) : am_rn call z pc ls st M X = am_get ls j fun w => am_asI w fun x => am_rn call z (pc + 3) (am_put ls j (some (.inl (.int (x + v))))) st M X := by subst hv; exact am_rn_eq hc
theorem am_j_t {α : Type} {pc t : Nat} {o : Int} (h : (pc : Int) + o = (t : Int)) (f : Nat → Option α) : am_j pc o f = f t := by
  unfold am_j
  rw [h]
theorem rn_goto {o : Int} {t : Nat} (hc : am_cd z pc = some (.goto o)) (ht : (pc : Int) + o = (t : Int)) : am_rn call z pc ls st M X = am_rn call z t ls st M X := by
  rw [am_rn_eq hc]
  dsimp only [am_ex]
  rw [am_j_t ht]
section If
variable {o : Int} {t : Nat}
theorem rn_ifeq (hc : am_cd z pc = some (.ifCond .eq o)) (ht : (pc : Int) + o = (t : Int)) : am_rn call z pc ls st M X = am_popI st fun x st => if x = 0 then am_rn call z t ls st M X else am_rn call z (pc + 3) ls st M X := by
  rw [am_rn_eq hc]; simp only [am_ex, am_j_t ht]
theorem rn_ifne (hc : am_cd z pc = some (.ifCond .ne o)) (ht : (pc : Int) + o = (t : Int)) : am_rn call z pc ls st M X = am_popI st fun x st => if x = 0 then am_rn call z (pc + 3) ls st M X else am_rn call z t ls st M X := by
  rw [am_rn_eq hc]; simp only [am_ex, am_j_t ht]
theorem rn_iflt (hc : am_cd z pc = some (.ifCond .lt o)) (ht : (pc : Int) + o = (t : Int)) : am_rn call z pc ls st M X = am_popI st fun x st => if x < 0 then am_rn call z t ls st M X else am_rn call z (pc + 3) ls st M X := by
  rw [am_rn_eq hc]; simp only [am_ex, am_j_t ht]
theorem rn_ifge (hc : am_cd z pc = some (.ifCond .ge o)) (ht : (pc : Int) + o = (t : Int)) : am_rn call z pc ls st M X = am_popI st fun x st => if x < 0 then am_rn call z (pc + 3) ls st M X else am_rn call z t ls st M X := by
  rw [am_rn_eq hc]; simp only [am_ex, am_j_t ht]
theorem rn_ifgt (hc : am_cd z pc = some (.ifCond .gt o)) (ht : (pc : Int) + o = (t : Int)) : am_rn call z pc ls st M X = am_popI st fun x st => if 0 < x then am_rn call z t ls st M X else am_rn call z (pc + 3) ls st M X := by
  rw [am_rn_eq hc]; simp only [am_ex, am_j_t ht]
theorem rn_ifle (hc : am_cd z pc = some (.ifCond .le o)) (ht : (pc : Int) + o = (t : Int)) : am_rn call z pc ls st M X = am_popI st fun x st => if 0 < x then am_rn call z (pc + 3) ls st M X else am_rn call z t ls st M X := by
  rw [am_rn_eq hc]; simp only [am_ex, am_j_t ht]
theorem rn_iceq (hc : am_cd z pc = some (.if_icmp .eq o)) (ht : (pc : Int) + o = (t : Int)) : am_rn call z pc ls st M X = am_popI st fun y st => am_popI st fun x st => if x = y then am_rn call z t ls st M X else am_rn call z (pc + 3) ls st M X := by
  rw [am_rn_eq hc]; simp only [am_ex, am_j_t ht]
theorem rn_icne (hc : am_cd z pc = some (.if_icmp .ne o)) (ht : (pc : Int) + o = (t : Int)) : am_rn call z pc ls st M X = am_popI st fun y st => am_popI st fun x st => if x = y then am_rn call z (pc + 3) ls st M X else am_rn call z t ls st M X := by
  rw [am_rn_eq hc]; simp only [am_ex, am_j_t ht]
theorem rn_iclt (hc : am_cd z pc = some (.if_icmp .lt o)) (ht : (pc : Int) + o = (t : Int)) : am_rn call z pc ls st M X = am_popI st fun y st => am_popI st fun x st => if x < y then am_rn call z t ls st M X else am_rn call z (pc + 3) ls st M X := by
  rw [am_rn_eq hc]; simp only [am_ex, am_j_t ht]
theorem rn_icge (hc : am_cd z pc = some (.if_icmp .ge o)) (ht : (pc : Int) + o = (t : Int)) : am_rn call z pc ls st M X = am_popI st fun y st => am_popI st fun x st => if x < y then am_rn call z (pc + 3) ls st M X else am_rn call z t ls st M X := by
  rw [am_rn_eq hc]; simp only [am_ex, am_j_t ht]
theorem rn_icgt (hc : am_cd z pc = some (.if_icmp .gt o)) (ht : (pc : Int) + o = (t : Int)) : am_rn call z pc ls st M X = am_popI st fun y st => am_popI st fun x st => if y < x then am_rn call z t ls st M X else am_rn call z (pc + 3) ls st M X := by
  rw [am_rn_eq hc]; simp only [am_ex, am_j_t ht]
theorem rn_icle (hc : am_cd z pc = some (.if_icmp .le o)) (ht : (pc : Int) + o = (t : Int)) : am_rn call z pc ls st M X = am_popI st fun y st => am_popI st fun x st => if y < x then am_rn call z (pc + 3) ls st M X else am_rn call z t ls st M X := by
  rw [am_rn_eq hc]; simp only [am_ex, am_j_t ht]
end If
theorem rn_getI {ix ci j : Nat} (hc : am_cd z pc = some (.getfield ix)) (hf : am_fl (am_own z) ix = some (ci, j)) (hk : (am_fk ci j == 3) = false) : am_rn call z pc ls st M X = am_popP st fun l st => am_chk X l ci (am_rn call z (pc + 3) ls (.inl (.int (M l j)) :: st) M X) := by
  have hk : ¬ am_fk ci j = 3 := by simpa using hk
  rw [am_rn_eq hc]; simp only [am_ex, hf, hk, if_false]
theorem rn_getP {ix ci j : Nat} (hc : am_cd z pc = some (.getfield ix)) (hf : am_fl (am_own z) ix = some (ci, j)) (hk : (am_fk ci j == 3) = true) : am_rn call z pc ls st M X = am_popP st fun l st => am_chk X l ci (am_rn call z (pc + 3) ls (.inr (X.1 l j) :: st) M X) := by
  have hk : am_fk ci j = 3 := by simpa using hk
  rw [am_rn_eq hc]; simp only [am_ex, hf, hk, if_true]
def am_fo (z ci j : Nat) : Bool := !(am_ff ci j) || (am_ini z && am_own z == ci)
theorem am_fo_ok {z ci j : Nat} (h : am_fo z ci j = true) : ¬ (am_ff ci j = true ∧ ¬ (am_ini z = true ∧ am_own z = ci)) := by
  simp only [am_fo, Bool.or_eq_true, Bool.not_eq_true', Bool.and_eq_true, beq_iff_eq] at h
  rintro ⟨h1, h2⟩
  rcases h with h | h
  · rw [h1] at h; cases h
  · exact h2 h
theorem rn_putI {ix ci j : Nat} (hc : am_cd z pc = some (.putfield ix)) (hf : am_fl (am_own z) ix = some (ci, j)) (ho : am_fo z ci j = true) (hk : am_fk ci j = 0) : am_rn call z pc ls st M X = am_popI st fun x st => am_popP st fun l st => am_chk X l ci (am_rn call z (pc + 3) ls st (am_set M l j x) X) := by
  rw [am_rn_eq hc]; simp only [am_ex, hf, hk, am_fo_ok ho, if_false, am_pc, if_true, Nat.zero_ne_add_one, show ¬ (0 : Nat) = 3 by decide]
theorem rn_putK {ix ci j k : Nat} (hc : am_cd z pc = some (.putfield ix)) (hf : am_fl (am_own z) ix = some (ci, j)) (ho : am_fo z ci j = true) (hk : am_fk ci j = k) (h3 : (k == 3) = false) : am_rn call z pc ls st M X = am_popI st fun x st => am_popP st fun l st => am_chk X l ci (if am_pc k x = true then am_rn call z (pc + 3) ls st (am_set M l j x) X else none) := by
  have h3 : ¬ k = 3 := by simpa using h3
  rw [am_rn_eq hc]; simp only [am_ex, hf, hk, am_fo_ok ho, if_false, h3]
theorem rn_putP {ix ci j : Nat} (hc : am_cd z pc = some (.putfield ix)) (hf : am_fl (am_own z) ix = some (ci, j)) (ho : am_fo z ci j = true) (hk : am_fk ci j = 3) : am_rn call z pc ls st M X = am_popP st fun v st => am_popP st fun l st => am_chk X l ci (if am_al X.2.1 v = true then am_rn call z (pc + 3) ls st M (am_setT X.1 l j (some v), X.2) else none) := by
  rw [am_rn_eq hc]; simp only [am_ex, hf, hk, am_fo_ok ho, if_false, if_true]
/-- behind a call in a method without a handler -/
def am_b1 {α : Type} (r : Option am_R) (K : Option am_V → am_M → am_X → Option am_R) : Option am_R := match r with
  | none => none
  | some (.inl v, M, X) => K v M X
  | some (.inr E, M, X) => some (.inr E, M, X)
theorem am_bk_b1 (hh : am_hs z = [] ∧ am_tr z = true) {r : Option am_R} {K : Nat → am_S → List am_V → am_M → am_X → Option am_R} : am_bk z pc ls st r K some = am_b1 (α := Unit) r fun v M X => K (pc + 3) ls (v.toList ++ st) M X := by
  unfold am_bk am_b1
  split
  · rfl
  · rfl
  · simp [am_hd, hh.1, hh.2, am_hf]
theorem rn_invV {ix y n o : Nat} (hc : am_cd z pc = some (.invokevirtual ix)) (hm : am_ml (am_own z) ix = some (0, y)) (hn : am_na y = n) (ho : am_own y = o) (hh : am_hs z = [] ∧ am_tr z = true) : am_rn call z pc ls st M X = am_popN n [] st fun as st => am_popP st fun l st => am_sm st (am_chk X l o (am_b1 (α := Unit) (call y (.inr (some l) :: as) M X) fun v M X => am_rn call z (pc + 3) ls (v.toList ++ st) M X)) := by
  subst hn; subst ho
  rw [am_rn_eq hc]; simp only [am_ex, hm, am_inv, am_bk_b1 hh]
theorem rn_invI {ix y n o k : Nat} (hc : am_cd z pc = some (.invokespecial ix)) (hm : am_ml (am_own z) ix = some (k, y)) (h2 : k = 2 ∨ k = 3) (hn : am_na y = n) (ho : am_own y = o) (hh : am_hs z = [] ∧ am_tr z = true) : am_rn call z pc ls st M X = am_popN n [] st fun as st => am_popP st fun l st => am_sm st (am_chk X l o (am_b1 (α := Unit) (call y (.inr (some l) :: as) M X) fun v M X => am_rn call z (pc + 3) ls (v.toList ++ st) M X)) := by
  subst hn; subst ho
  rw [am_rn_eq hc]
  rcases h2 with rfl | rfl <;> simp only [am_ex, hm, am_inv, am_bk_b1 hh]
theorem rn_invS {ix y n k : Nat} (hc : am_cd z pc = some (.invokestatic ix)) (hm : am_ml (am_own z) ix = some (k, y)) (h2 : k = 1 ∨ k = 4) (hn : am_na y = n) (hh : am_hs z = [] ∧ am_tr z = true) : am_rn call z pc ls st M X = am_popN n [] st fun as st => am_sm st (am_b1 (α := Unit) (call y as M X) fun v M X => am_rn call z (pc + 3) ls (v.toList ++ st) M X) := by
  subst hn
  rw [am_rn_eq hc]
  rcases h2 with rfl | rfl <;> simp only [am_ex, hm, am_inv, am_bk_b1 hh]
/-- a call in a method with handlers -/
theorem rn_invH {ix y n o : Nat} (hc : am_cd z pc = some (.invokevirtual ix)) (hm : am_ml (am_own z) ix = some (0, y)) (hn : am_na y = n) (ho : am_own y = o) : am_rn call z pc ls st M X = am_popN n [] st fun as st => am_popP st fun l st => am_sm st (am_chk X l o (am_bk z pc ls st (call y (.inr (some l) :: as) M X) (am_rn call z) some)) := by
  subst hn; subst ho
  rw [am_rn_eq hc]; simp only [am_ex, hm, am_inv]
theorem rn_obj {ix y : Nat} (hc : am_cd z pc = some (.invokespecial ix)) (hm : am_ml (am_own z) ix = some (5, y)) : am_rn call z pc ls st M X = am_popP st fun _ st => am_sm st (am_rn call z (pc + 3) ls st M X) := by
  rw [am_rn_eq hc]; simp only [am_ex, hm, am_inv]
theorem rn_min {ix y : Nat} (hc : am_cd z pc = some (.invokestatic ix)) (hm : am_ml (am_own z) ix = some (6, y)) : am_rn call z pc ls st M X = am_popI st fun y st => am_popI st fun x st => am_sm st (am_rn call z (pc + 3) ls (.inl (.int (if y < x then y else x)) :: st) M X) := by
  rw [am_rn_eq hc]; simp only [am_ex, hm, am_inv]
def am_cpy {α : Type} (M : am_M) (X : am_X) (a0 a : am_L) (sp dp n : Int32) (f : am_M → Option α) : Option α :=
  if a ≠ a0 ∧ am_al X.2.1 a = true ∧ am_al X.2.1 a0 = true ∧ (am_kd a).1 = 1 ∧ (am_kd a0).1 = 1 ∧ ¬ sp < 0 ∧ ¬ dp < 0 ∧ ¬ n < 0 ∧ sp.toNatClampNeg + n.toNatClampNeg ≤ (am_kd a0).2.1 ∧ dp.toNatClampNeg + n.toNatClampNeg ≤ (am_kd a).2.1
      then f (am_cp M a0 a sp.toNatClampNeg dp.toNatClampNeg n.toNatClampNeg) else none
theorem rn_copy {ix y : Nat} (hc : am_cd z pc = some (.invokestatic ix)) (hm : am_ml (am_own z) ix = some (7, y)) : am_rn call z pc ls st M X = am_popI st fun n st => am_popI st fun dp st => am_popP st fun a st => am_popI st fun sp st => am_popP st fun a0 st => am_sm st (am_cpy M X a0 a sp dp n fun M => am_rn call z (pc + 3) ls st M X) := by
  rw [am_rn_eq hc]; simp only [am_ex, hm, am_inv, am_cpy]
theorem rn_new {ix ci n c : Nat} (hX : X.2.1 = some c) (hc : am_cd z pc = some (.new ix)) (hm : am_nw (am_own z) ix = some (.inl ci)) (hn : am_cN ci = n) : am_rn call z pc ls st M X = am_nu X (0, ci, 0) n fun l X => am_rn call z (pc + 3) ls (.inr (some l) :: st) M X := by
  subst hn
  rw [am_rn_eq hc]; simp only [am_ex, hm]
  rw [if_neg (fun q => by rw [hX] at q; exact absurd q.2.1 (by simp))]
theorem rn_anew {ix ci : Nat} (hc : am_cd z pc = some (.anewarray ix)) (hm : am_aw (am_own z) ix = some ci) : am_rn call z pc ls st M X = am_popI st fun c st => if c < 0 then none else am_nu X (3, ci, c.toNatClampNeg) c.toNatClampNeg fun l X => am_rn call z (pc + 3) ls (.inr (some l) :: st) M X := by
  rw [am_rn_eq hc]; simp only [am_ex, hm]
theorem rn_throw {ix E ic : Nat} (hc : am_cd z pc = some (.new ix)) (hm : am_nw (am_own z) ix = some (.inr (E, ic))) (h1 : am_cd z (pc + 3) = some .dup) (h2 : am_cd z (pc + 4) = some (.invokespecial ic)) (h3 : am_cd z (pc + 7) = some .athrow) (h4 : am_tr z = true) : am_rn call z pc ls st M X = if X.2.1 = none then am_sm st (some (.inr E, M, am_bump X)) else none := by
  rw [am_rn_eq hc]; simp only [am_ex, hm, h1, h2, h3, h4, true_and, and_true]
def am_sw {α : Type} (x : Int32) (f : Nat → Option α) (d : Option α) : Int → List Nat → Option α
  | _, [] => d
  | a, t :: ts => if x.toInt = a then f t else am_sw x f d (a + 1) ts
theorem am_sw_out {α : Type} {x : Int32} {f : Nat → Option α} {d : Option α} : ∀ (ts : List Nat) (a : Int), x.toInt < a ∨ a + ts.length ≤ x.toInt → am_sw x f d a ts = d
  | [], _, _ => rfl
  | t :: ts, a, h => by
    simp only [List.length_cons] at h
    rw [am_sw, if_neg (by omega), am_sw_out ts (a + 1) (by omega)]
theorem am_sw_in {α : Type} {x : Int32} {f : Nat → Option α} {d : Option α} : ∀ (ts : List Nat) (a : Int) (k : Nat), x.toInt = a + k → k < ts.length → am_sw x f d a ts = f (ts.getD k 0)
  | [], _, _, _, h => by simp at h
  | t :: ts, a, 0, h, _ => by rw [am_sw, if_pos (by omega)]; rfl
  | t :: ts, a, k + 1, h, hk => by
    simp only [List.length_cons] at hk
    rw [am_sw, if_neg (by omega), am_sw_in ts (a + 1) k (by omega) (by omega)]
    rfl
def am_tsok (pc : Nat) (d lo hi : Int) (os : Array Int) (td : Nat) (ts : List Nat) : Bool := decide ((pc : Int) + d = td) && decide (hi + 1 = lo + ts.length) && decide (os.toList.map (fun o => (pc : Int) + o) = ts.map (fun (t : Nat) => (t : Int)))
theorem rn_ts {d lo hi : Int} {os : Array Int} {td : Nat} {ts : List Nat} (hc : am_cd z pc = some (.tableswitch d lo hi os)) (hok : am_tsok pc d lo hi os td ts = true) : am_rn call z pc ls st M X = am_popI st fun x st => am_sw x (fun t => am_rn call z t ls st M X) (am_rn call z td ls st M X) lo ts := by
  simp only [am_tsok, Bool.and_eq_true, decide_eq_true_eq] at hok
  obtain ⟨⟨h1, h2⟩, h3⟩ := hok
  rw [am_rn_eq hc]
  dsimp only [am_ex]
  congr 1
  funext x st
  by_cases hx : x.toInt < lo ∨ hi < x.toInt
  · rw [if_pos hx, am_j_t h1, am_sw_out ts lo (by omega)]
  · rw [if_neg hx]
    have hk : (x.toInt - lo).toNat < ts.length := by omega
    rw [am_sw_in ts lo (x.toInt - lo).toNat (by omega) hk]
    have h4 := congrArg (fun l => l[(x.toInt - lo).toNat]?) h3
    simp only [List.getElem?_map, Array.getElem?_toList] at h4
    rw [List.getElem?_eq_getElem hk] at h4
    cases ho : os[(x.toInt - lo).toNat]? with
    | none => rw [ho] at h4; cases h4
    | some o =>
      rw [ho] at h4
      simp only [Option.map_some, Option.some.injEq] at h4
      dsimp only
      rw [am_j_t h4, List.getD_eq_getElem?_getD, List.getElem?_eq_getElem hk]
      rfl
def am_lk {α : Type} (x : Int32) (f : Nat → Option α) (d : Option α) : List (Int × Nat) → Option α
  | [] => d
  | q :: ts => if x.toInt = q.1 then f q.2 else am_lk x f d ts
theorem am_lk_of {x : Int32} {pc td : Nat} {d : Int} (h1 : (pc : Int) + d = td) {α : Type} (f : Nat → Option α) : ∀ (ps : List (Int × Int)) (ts : List (Int × Nat)), ps.map (fun q => (q.1, (pc : Int) + q.2)) = ts.map (fun q => (q.1, (q.2 : Int))) → am_j pc (Op.lookupswitch.offset ps d x.toInt) f = am_lk x f (f td) ts
  | [], [], _ => by
    show am_j pc d f = f td
    exact am_j_t h1 f
  | [], _ :: _, h => by simp at h
  | _ :: _, [], h => by simp at h
  | (a, o) :: ps, (b, t) :: ts, h => by
    simp only [List.map_cons, List.cons.injEq, Prod.mk.injEq] at h
    obtain ⟨⟨h2, h3⟩, h4⟩ := h
    subst h2
    by_cases hx : x.toInt = a
    · rw [am_lk, if_pos hx]
      have e : Op.lookupswitch.offset ((a, o) :: ps) d x.toInt = o := by simp [Op.lookupswitch.offset, hx]
      rw [e]
      exact am_j_t h3 f
    · rw [am_lk, if_neg hx, ← am_lk_of h1 f ps ts h4]
      congr 1
      simp [Op.lookupswitch.offset, Ne.symm hx]
theorem rn_ls {d : Int} {ps : Array (Int × Int)} {td : Nat} {ts : List (Int × Nat)} (hc : am_cd z pc = some (.lookupswitch d ps)) (h0 : (ps.toList.zip (ps.toList.drop 1)).all (fun (a, next) => a.1 < next.1) = true) (h1 : (pc : Int) + d = (td : Int)) (h2 : ps.toList.map (fun q => (q.1, (pc : Int) + q.2)) = ts.map (fun q => (q.1, (q.2 : Int)))) : am_rn call z pc ls st M X = am_popI st fun x st => am_lk x (fun t => am_rn call z t ls st M X) (am_rn call z td ls st M X) ts := by
  rw [am_rn_eq hc]
  dsimp only [am_ex]
  congr 1
  funext x st
  rw [if_pos h0, am_lk_of h1 _ _ _ h2]
end AmRows
end
section
/-! THE CLAIM OUT OF ONE WALK OF THE LAW'S BODY. Your part is whole_start (and what it stands on); all else here is the same for every law, but numbers. -/
def R_law : String := "BellTelegraphLaw"
def lw_P (b : Addr) (xs : List Int32) (args : Array Value) (s : State) : Prop := args = #[.ref b] ∧ s.IntsAt b xs ∧ xs.length ≤ 260 ∧ (Jvm.Cond.and given_1 narrow_1).before args s = true
/-- what a walk over the start with the record d0 says of its end, said of the start itself -/
theorem lw_closed {s t : State} {o : Outcome} {d0 : Drawn} {L : List Loc} {k n : Nat} (hd0 : s.drawn.sameBut d0 lw_cs) (hv : ∃ v, o = .returned v) (hW : (s.setDrawn d0).WarmedH t.vm) (hs : (s.setDrawn d0).sameButNew ({ t with vm := s.vm } : State) L k n) : State.butDraws s t lw_cs (fun t1 => Framed s o t1 L k n) := by
  have h2 : t.drawn = d0 := congrArg State.drawn hs.1
  refine ⟨⟨hv, hW, State.sameButNew.setDrawn hs s.drawn⟩, ?_, by decide⟩
  rw [h2]
  exact hd0
def lw_Q (_ : Array Value) (s : State) (o : Outcome) (t : State) : Prop := o = .returned (some (.int 1)) ∧ State.butDraws s t lw_cs (fun t1 => Framed s o t1 [] 814556 6645059)
def lw_Z (below : List Frame) (a : Array Value) (s : State) : State → Prop := fun t => ∃ o, t.status = .running ∧ Ended t below o ∧ lw_Q a s o t
/-- the law's own end, with 1 on the stack, nothing written that was there before, its room as the claim has it; d0: the record of draws at this point (at the entry s.drawn: begin with 'refine W.base ?_' and 'have hd0 := Drawn.sameBut.refl s.drawn lw_cs') -/
theorem lw_ret {p : Program} {l : Launch} {e : Env} {s : State} {m : MethodId} {below : List Frame} {meth : Method} {c : Code} {b : Nat} {d0 : Drawn} (hd0 : s.drawn.sameBut d0 lw_cs) (hx : p.tables.exec = Jvm.exec) (hb : c.code = code) (hr : meth.sig.returnType = ret) (hlocks : meth.locks = false) {pc : Nat} {H : Heap} {ls : Array Slot} (hdg : decode code pc = .ok (.ireturn, 1)) : W p l e room_1 (s.setDrawn d0) m #[Value.ref b] below meth c H [] 814556 6645059 (lw_Z below #[Value.ref b] s) (F0 m pc ls [.int 1]) := by
  intro T hT X
  obtain ⟨fs, hret, hrun, hended, hW, hframe⟩ := X.leave (v := some (.int 1)) (hlocks := hlocks) (fun h => by rw [hr] at h; cases h)
  have hmeth' : T.vm.method? m = some meth := X.method'
  refine ⟨T.setFrames fs, ?_, .returned (some (.int 1)), hrun, hended, rfl, lw_closed hd0 ⟨_, rfl⟩ hW hframe⟩
  jvm_step X.here [X.here.top, hx, hb, hdg, hmeth', hr, ret, narrow_b1]
  (try refine ⟨rfl, ?_⟩); (try refine ⟨rfl, ?_⟩)
  first | (intro acts; rw [hret _ acts rfl rfl rfl]) | rw [hret _ _ rfl rfl rfl]
  exact Steps.refl _
/-- what holds at the law's entry: the machine, the code, the tables' words (any of lw_tbl by 'hts w (by decide +kernel)'), the script of L ints xs at the cell b, what the Statement gives of the start (any of its parts by flat_of_before) -/
def lw_At (p : Program) (s : State) (m : MethodId) (meth : Method) (c : Code) (b L : Nat) (xs : Nat → Int32) : Prop :=
  p.tables.exec = Jvm.exec ∧ c.code = code ∧ meth.sig.returnType = ret ∧ c.maxLocals = 11 ∧ s.vm.findClass R_law = some m.cls ∧ (∀ w ∈ lw_tbl, w.before #[Value.ref b] s = true) ∧ va_X b L xs s s.heap ∧ b < s.heap.size ∧ meth.locks = false ∧ (Jvm.Cond.and given_1 narrow_1).before #[Value.ref b] s = true
end
section
/-! WHAT THE MACHINE'S HEAP HOLDS OF THE ABSTRACT ONE. G: where our cells begin, where the script lies, the numbers of the classes, of the array classes, the script's length and its ints -/
abbrev am_Γ : Type := Nat × Nat × va_G × (Nat → ClassId) × Nat × (Nat → Int32) × (Nat × Nat × Nat × Nat)
/-- where the row of longs lies, where the String at hand and its bytes lie -/
abbrev am_wa (G : am_Γ) : Nat := G.2.2.2.2.2.2.1
abbrev am_sa (G : am_Γ) : Nat := G.2.2.2.2.2.2.2.1
abbrev am_sb0 (G : am_Γ) : Nat := G.2.2.2.2.2.2.2.2.1
/-- from where on a frame may write -/
abbrev am_b0 (G : am_Γ) : Nat := G.2.2.2.2.2.2.2.2.2
abbrev am_A0 (G : am_Γ) : Nat → Prop := fun q => am_b0 G ≤ q
def am_adr (G : am_Γ) (l : am_L) : Nat := if l.1 = 1 then am_wa G else if l.1 = 50 then am_sa G else G.1 + am_ad l
theorem am_ok_k {l : am_L} (h : am_ok l = true) : l.1 ≠ 1 ∧ l.1 ≠ 50 := by
  obtain ⟨t, n, k⟩ := l
  refine ⟨fun e => ?_, fun e => ?_⟩ <;> (dsimp only at e; subst e; cases h)
theorem am_adr_ok {G : am_Γ} {l : am_L} (h : am_ok l = true) : am_adr G l = G.1 + am_ad l := by
  unfold am_adr
  rw [if_neg (am_ok_k h).1, if_neg (am_ok_k h).2]
def am_rv (G : am_Γ) (o : Option am_L) : Value := match o with
  | none => .null
  | some l => .ref (if l.1 = 0 then G.2.1 else am_adr G l)
def am_tv (G : am_Γ) (v : am_V) : Value := match v with
  | .inl v => v
  | .inr o => am_rv G o
def am_fv (G : am_Γ) (ci : Nat) (M : am_M) (T : am_T) (l : am_L) (j : Nat) : Value := if am_fk ci j = 3 then am_rv G (T l j) else .int (M l j)
def am_cell (G : am_Γ) (M : am_M) (X : am_X) (l : am_L) (H : Heap) : Prop := match (am_kd l).1 with
  | 0 => t_OB (am_adr G l) (G.2.2.1.1 (am_kd l).2.1) (am_cN (am_kd l).2.1) (G.2.2.1.2 (am_kd l).2.1) H (am_fv G (am_kd l).2.1 M X.1 l)
  | 1 => H[am_adr G l]? = some (arrV (G.2.2.2.1 0) (am_kd l).2.1 (fun j => .int (M l j)))
  | 2 => H[am_adr G l]? = some (arrV (G.2.2.2.1 1) (am_kd l).2.1 (fun j => .int (M l j)))
  | 3 => H[am_adr G l]? = some (arrV (G.2.2.2.1 (10 + (am_kd l).2.1)) (am_kd l).2.2 (fun j => am_rv G (X.1 l j)))
  | _ => True
/-- apart from the object's cells -/
def am_fa (G : am_Γ) (q : Nat) : Prop := q < G.1 ∨ G.1 + 701 ≤ q
/-- a String of one byte a letter at a with its bytes at b -/
def am_so (G : am_Γ) (a b : Nat) (t : List Nat) (H : Heap) : Prop := ∃ sC SA : Cell, (H[a]? = some sC ∧ sC.cls = G.2.2.1.1 9 ∧ sC.vm ≠ .unknown ∧ sC.vm.isStatics = false ∧ sC.slots[G.2.2.1.2 9 0]? = some (.ref b) ∧ sC.slots[G.2.2.1.2 9 1]? = some (.int 0)) ∧ (H[b]? = some SA ∧ SA.cls = G.2.2.2.1 3 ∧ SA.vm ≠ .unknown ∧ SA.vm.isStatics = false ∧ SA.slots.size = t.length ∧ ∀ j, j < t.length → SA.slots[j]? = some (.int (nI (t.getD j 0))))
theorem am_so.kept {G : am_Γ} {a b : Nat} {t : List Nat} {H H' : Heap} (h : am_so G a b t H) (h1 : H'[a]? = H[a]?) (h2 : H'[b]? = H[b]?) : am_so G a b t H' := by
  obtain ⟨sC, SA, q1, q2⟩ := h
  exact ⟨sC, SA, ⟨by rw [h1]; exact q1.1, q1.2⟩, by rw [h2]; exact q2.1, q2.2⟩
theorem am_so.lt {G : am_Γ} {a b : Nat} {t : List Nat} {H : Heap} (h : am_so G a b t H) : a < H.size ∧ b < H.size := by
  obtain ⟨sC, SA, q1, q2⟩ := h
  exact ⟨(Array.getElem?_eq_some_iff.mp q1.1).1, (Array.getElem?_eq_some_iff.mp q2.1).1⟩
/-- the String at hand: its letters, its cell and that of its bytes -/
def am_str (G : am_Γ) (t : List Nat) (H : Heap) : Prop := (am_fa G (am_sa G) ∧ am_fa G (am_sb0 G) ∧ am_sa G ≠ am_sb0 G) ∧ am_so G (am_sa G) (am_sb0 G) t H ∧ (∀ c ∈ t, c < 128) ∧ t.length ≤ 60
/-- what lies beside the object's cells -/
def am_rk (T : am_T) : Prop := ∀ (l : am_L) (j : Nat) (v : am_L), T l j = some v → v.1 ≠ 1 ∧ v.1 ≠ 50
def am_HX (G : am_Γ) (X : am_X) (H : Heap) : Prop := am_rk X.1 ∧ (∀ f, X.2.2.2.2.1 = some f → G.1 + 701 ≤ am_wa G ∧ H[am_wa G]? = some (arrV (G.2.2.2.1 2) 13 (fun j => .long (f j)))) ∧ ∀ t, X.2.2.2.2.2 = some t → am_str G t H
theorem am_str.kept {G : am_Γ} {t : List Nat} {H H' : Heap} (h : am_str G t H) (h1 : H'[am_sa G]? = H[am_sa G]?) (h2 : H'[am_sb0 G]? = H[am_sb0 G]?) : am_str G t H' := ⟨h.1, h.2.1.kept h1 h2, h.2.2⟩
theorem am_HX.kept {G : am_Γ} {X X' : am_X} {H H' : Heap} (h : am_HX G X H) (hk : am_rk X'.1) (h1 : X'.2.2.2.2 = X.2.2.2.2) (hq : ∀ q : Nat, am_fa G q → q < H.size → H'[q]? = H[q]?) : am_HX G X' H' := by
  obtain ⟨-, a, b⟩ := h
  have lt : ∀ (q : Nat) (c : Cell), H[q]? = some c → q < H.size := fun q c e => (Array.getElem?_eq_some_iff.mp e).1
  refine ⟨hk, fun f hf => ?_, fun t ht => ?_⟩
  · rw [h1] at hf
    obtain ⟨g1, g2⟩ := a f hf
    exact ⟨g1, by rw [hq _ (Or.inr g1) (lt _ _ g2)]; exact g2⟩
  · rw [h1] at ht
    have g := b t ht
    exact g.kept (hq _ g.1.1 g.2.1.lt.1) (hq _ g.1.2.1 g.2.1.lt.2)
def am_HR (G : am_Γ) (M : am_M) (X : am_X) (H : Heap) : Prop :=
  (∀ l, am_al X.2.1 l = true → l.1 ≠ 0 → am_cell G M X l H) ∧ (M (0, 0, 1) 0 = nI G.2.2.2.2.1 ∧ ∀ j, j < G.2.2.2.2.1 → M (0, 0, 0) j = G.2.2.2.2.2.1 j) ∧
  (match X.2.1 with
  | none => G.1 + 701 ≤ H.size
  | some c => H.size = G.1 + c ∧ ∀ l, am_ok l = true → l.1 ≠ 0 → c ≤ am_ad l → (∀ j, M l j = 0) ∧ ∀ j, X.1 l j = none) ∧ am_HX G X H
theorem am_lo_nb {n r : Nat} (hn : n < 12) (hr : r < 56) : am_lo (am_nb n + r) = am_lr n r := by
  by_cases h3 : n < 3
  · have e : am_nb n = 1 + 56 * n := if_pos h3
    rw [e]
    unfold am_lo
    rw [if_neg (by omega), if_pos (by omega)]
    congr 1 <;> omega
  · have e : am_nb n = 3 + 56 * n := if_neg h3
    rw [e]
    unfold am_lo
    rw [if_neg (by omega), if_neg (by omega), if_neg (by omega), if_neg (by omega), if_pos (by omega), show 3 + (3 + 56 * n + r - 171) / 56 = n by omega, show (3 + 56 * n + r - 171) % 56 = r by omega]
theorem am_lr_a {n c : Nat} (hc : c < 6) : am_lr n c = (13 + c, n, 0) := by unfold am_lr; rw [if_pos hc]
theorem am_lr_20 {n : Nat} : am_lr n 6 = (20, n, 0) := by unfold am_lr; rw [if_neg (by omega), if_pos (by omega)]
theorem am_lr_21 {n k : Nat} (hk : k < 6) : am_lr n (7 + 2 * k) = (21, n, k) := by
  unfold am_lr
  rw [if_neg (by omega), if_neg (by omega), if_pos (by omega), show (7 + 2 * k - 7) % 2 = 0 by omega, show (7 + 2 * k - 7) / 2 = k by omega]
theorem am_lr_22 {n k : Nat} (hk : k < 6) : am_lr n (8 + 2 * k) = (22, n, k) := by
  unfold am_lr
  rw [if_neg (by omega), if_neg (by omega), if_pos (by omega), show (8 + 2 * k - 7) % 2 = 1 by omega, show (8 + 2 * k - 7) / 2 = k by omega]
theorem am_lr_23 {n k : Nat} (hk : k < 5) : am_lr n (19 + k) = (23, n, k) := by
  unfold am_lr
  rw [if_neg (by omega), if_neg (by omega), if_neg (by omega), if_pos (by omega), show 19 + k - 19 = k by omega]
theorem am_lr_24 {n k : Nat} : am_lr n (24 + 2 * k) = (24, n, k) := by
  unfold am_lr
  rw [if_neg (by omega), if_neg (by omega), if_neg (by omega), if_neg (by omega), show (24 + 2 * k - 24) % 2 = 0 by omega, show (24 + 2 * k - 24) / 2 = k by omega]
theorem am_lr_25 {n k : Nat} : am_lr n (25 + 2 * k) = (25, n, k) := by
  unfold am_lr
  rw [if_neg (by omega), if_neg (by omega), if_neg (by omega), if_neg (by omega), show (25 + 2 * k - 24) % 2 = 1 by omega, show (25 + 2 * k - 24) / 2 = k by omega]
theorem am_lo_11 {k : Nat} (hk : k < 20) : am_lo (680 + k) = (11, 0, k) := by
  unfold am_lo
  rw [if_neg (by omega), if_neg (by omega), if_neg (by omega), if_neg (by omega), if_neg (by omega), if_neg (by omega), if_neg (by omega), if_neg (by omega), if_neg (by omega), if_neg (by omega), if_pos (by omega), show 680 + k - 680 = k by omega]
theorem am_lo_ad (l : am_L) (h : am_ok l = true) (h0 : l.1 ≠ 0) : am_lo (am_ad l) = l := by
  obtain ⟨t, n, k⟩ := l
  simp only [am_ok] at h
  split at h
  all_goals first
    | (exact absurd rfl h0)
    | (simp only [Bool.and_eq_true, beq_iff_eq] at h; obtain ⟨h1, h2⟩ := h; subst h1; subst h2; decide)
    | (simp only [Bool.and_eq_true, beq_iff_eq, decide_eq_true_eq] at h; obtain ⟨h1, h2⟩ := h; subst h1; exact am_lo_11 h2)
    | (simp only [Bool.and_eq_true, beq_iff_eq, decide_eq_true_eq] at h; obtain ⟨h1, h2⟩ := h; subst h2; first
        | exact (am_lo_nb (r := 0) h1 (by omega)).trans (am_lr_a (by omega))
        | exact (am_lo_nb (r := 1) h1 (by omega)).trans (am_lr_a (by omega))
        | exact (am_lo_nb (r := 2) h1 (by omega)).trans (am_lr_a (by omega))
        | exact (am_lo_nb (r := 3) h1 (by omega)).trans (am_lr_a (by omega))
        | exact (am_lo_nb (r := 4) h1 (by omega)).trans (am_lr_a (by omega))
        | exact (am_lo_nb (r := 5) h1 (by omega)).trans (am_lr_a (by omega))
        | exact (am_lo_nb (r := 6) h1 (by omega)).trans am_lr_20)
    | (simp only [Bool.and_eq_true, decide_eq_true_eq] at h; obtain ⟨h1, h2⟩ := h; simp only [am_ad, Nat.add_assoc]; rw [am_lo_nb h1 (by omega)]; first | exact am_lr_21 h2 | exact am_lr_22 h2 | exact am_lr_23 h2 | exact am_lr_24 | exact am_lr_25)
    | cases h
theorem am_ad_inj {l l' : am_L} (h : am_ok l = true) (h0 : l.1 ≠ 0) (h' : am_ok l' = true) (h0' : l'.1 ≠ 0) (he : am_ad l = am_ad l') : l = l' := by
  rw [← am_lo_ad l h h0, he, am_lo_ad l' h' h0']
theorem am_al_ok {ph : Option Nat} {l : am_L} (h : am_al ph l = true) : am_ok l = true := by
  unfold am_al at h
  exact (Bool.and_eq_true _ _ ▸ h).1
theorem am_al_lt {c : Nat} {l : am_L} (h : am_al (some c) l = true) (h0 : l.1 ≠ 0) : am_ad l < c := by
  unfold am_al at h
  simp only [Bool.and_eq_true, Bool.or_eq_true, decide_eq_true_eq, beq_iff_eq] at h
  rcases h.2 with h | h
  · exact h
  · exact absurd h h0
theorem am_cell.kept {G : am_Γ} {M M' : am_M} {X X' : am_X} {l : am_L} {H H' : Heap} (h : am_cell G M X l H) (hq : H'[am_adr G l]? = H[am_adr G l]?) (hM : M' l = M l) (hT : X'.1 l = X.1 l) : am_cell G M' X' l H' := by
  unfold am_cell at h ⊢
  split
  · rename_i hk
    simp only [hk] at h
    exact (h.kept hq).to (fun k _ => by unfold am_fv; rw [hM, hT])
  · rename_i hk
    simp only [hk] at h
    rw [hq, hM]; exact h
  · rename_i hk
    simp only [hk] at h
    rw [hq, hM]; exact h
  · rename_i hk
    simp only [hk] at h
    rw [hq, hT]; exact h
  · trivial
theorem am_ad_lt {l : am_L} (hok : am_ok l = true) (h0 : l.1 ≠ 0) : am_ad l < 701 := by
  obtain ⟨t, n, k⟩ := l
  simp only [am_ok] at hok
  split at hok <;> simp only [Bool.and_eq_true, beq_iff_eq, decide_eq_true_eq, Bool.false_eq_true] at hok <;> simp only [am_ad, am_nb] <;> first | omega | (split <;> omega) | (exact absurd rfl h0)
theorem am_HR.upd {G : am_Γ} {M M' : am_M} {X X' : am_X} {l : am_L} {H H' : Heap} (h : am_HR G M X H) (hl : am_al X.2.1 l = true) (h0 : l.1 ≠ 0) (hz : H'.size = H.size) (ho : ∀ q : Nat, q ≠ am_adr G l → H'[q]? = H[q]?)
    (hM : ∀ l', l' ≠ l → M' l' = M l') (hT : ∀ l', l' ≠ l → X'.1 l' = X.1 l') (hph : X'.2.1 = X.2.1) (h45 : X'.2.2.2.2 = X.2.2.2.2) (hk : am_rk X'.1) (hc : am_cell G M' X' l H') : am_HR G M' X' H' := by
  obtain ⟨a1, ⟨a2, a3⟩, a4, a5⟩ := h
  have hadr := am_adr_ok (G := G) (am_al_ok hl)
  have hlt := am_ad_lt (am_al_ok hl) h0
  refine ⟨fun l' hl' h0' => ?_, ⟨?_, fun j hj => ?_⟩, ?_, a5.kept hk h45 (fun q hq _ => ho q (by unfold am_fa at hq; omega))⟩
  · by_cases e : l' = l
    · rw [e]; exact hc
    · rw [hph] at hl'
      refine (a1 l' hl' h0').kept (ho _ (fun q => e ?_)) (hM l' e) (hT l' e)
      rw [hadr, am_adr_ok (am_al_ok hl')] at q
      exact am_ad_inj (am_al_ok hl') h0' (am_al_ok hl) h0 (by omega)
  · rw [hM _ (fun q => h0 (by rw [← q]))]; exact a2
  · rw [hM _ (fun q => h0 (by rw [← q]))]; exact a3 j hj
  · rw [hph]
    cases hx : X.2.1 with
    | none =>
      rw [hx] at a4
      dsimp only at a4 ⊢
      omega
    | some c =>
      rw [hx] at a4 hl
      dsimp only at a4 ⊢
      refine ⟨by omega, fun l' h1 h2 h3 => ?_⟩
      have e : l' ≠ l := fun q => by
        have := am_al_lt hl h0
        rw [q] at h3
        omega
      rw [hM l' e, hT l' e]
      exact a4.2 l' h1 h2 h3
theorem am_HR.new {G : am_Γ} {M : am_M} {X X' : am_X} {l : am_L} {H H' : Heap} {c : Nat} (h : am_HR G M X H) (hp : X.2.1 = some c) (hok : am_ok l = true) (h0 : l.1 ≠ 0) (hc : am_ad l = c) (hz : H'.size = H.size + 1) (ho : ∀ q : Nat, q < H.size → H'[q]? = H[q]?)
    (hX1 : X'.1 = X.1) (hX2 : X'.2.1 = am_nph c) (h45 : X'.2.2.2.2 = X.2.2.2.2) (hcell : am_cell G M X' l H') : am_HR G M X' H' := by
  obtain ⟨a1, a2, a4, a5⟩ := h
  rw [hp] at a4 a1
  dsimp only at a4
  have a5' : am_HX G X' H' := a5.kept (by rw [hX1]; exact a5.1) h45 (fun q _ hq => ho q hq)
  have key : ∀ l' : am_L, am_ok l' = true → l'.1 ≠ 0 → am_ad l' < c + 1 → am_cell G M X' l' H' := by
    intro l' hok' h0' h1
    by_cases e : l' = l
    · rw [e]; exact hcell
    · have hne : am_ad l' ≠ c := fun q => e (am_ad_inj hok' h0' hok h0 (q.trans hc.symm))
      have hal : am_al (some c) l' = true := by
        unfold am_al
        simp only [hok', Bool.true_and, Bool.or_eq_true, decide_eq_true_eq]
        exact Or.inl (by omega)
      exact (a1 l' hal h0').kept (ho _ (by rw [am_adr_ok hok']; omega)) rfl (by rw [hX1])
  by_cases hl : c + 1 = 701
  · have hX3 : X'.2.1 = none := by rw [hX2]; exact if_pos hl
    refine ⟨fun l' hl' h0' => ?_, a2, ?_, a5'⟩
    · have hok' := am_al_ok hl'
      exact key l' hok' h0' (by have := am_ad_lt hok' h0'; omega)
    · rw [hX3]
      dsimp only
      omega
  · have hX3 : X'.2.1 = some (c + 1) := by rw [hX2]; exact if_neg hl
    refine ⟨fun l' hl' h0' => ?_, a2, ?_, a5'⟩
    · rw [hX3] at hl'
      exact key l' (am_al_ok hl') h0' (am_al_lt hl' h0')
    · rw [hX3]
      dsimp only
      refine ⟨by omega, fun l' h1 h2 h3 => ?_⟩
      rw [hX1]
      exact a4.2 l' h1 h2 (by omega)
theorem am_HR.bump {G : am_Γ} {M : am_M} {X X' : am_X} {H H' : Heap} (h : am_HR G M X H) (hp : X.2.1 = none) (hz : H.size ≤ H'.size) (ho : ∀ q : Nat, q < H.size → H'[q]? = H[q]?) (hX1 : X'.1 = X.1) (hX2 : X'.2.1 = none) (h45 : X'.2.2.2.2 = X.2.2.2.2) : am_HR G M X' H' := by
  obtain ⟨a1, a2, a4, a5⟩ := h
  rw [hp] at a4 a1
  dsimp only at a4
  refine ⟨fun l' hl' h0' => ?_, a2, by rw [hX2]; dsimp only; omega, a5.kept (by rw [hX1]; exact a5.1) h45 (fun q _ hq => ho q hq)⟩
  rw [hX2] at hl'
  exact (a1 l' hl' h0').kept (ho _ (by have := am_ad_lt (am_al_ok hl') h0'; rw [am_adr_ok (am_al_ok hl')]; omega)) rfl (by rw [hX1])
/-- the same, with other places for what lies beside -/
abbrev am_gx (G : am_Γ) (x : Nat × Nat × Nat × Nat) : am_Γ := (G.1, G.2.1, G.2.2.1, G.2.2.2.1, G.2.2.2.2.1, G.2.2.2.2.2.1, x)
theorem am_rv_gx {G : am_Γ} {x : Nat × Nat × Nat × Nat} {o : Option am_L} (h : ∀ v, o = some v → v.1 ≠ 1 ∧ v.1 ≠ 50) : am_rv (am_gx G x) o = am_rv G o := by
  cases o with
  | none => rfl
  | some v =>
    obtain ⟨h1, h2⟩ := h v rfl
    show Value.ref (if v.1 = 0 then G.2.1 else am_adr (am_gx G x) v) = Value.ref (if v.1 = 0 then G.2.1 else am_adr G v)
    unfold am_adr
    rw [if_neg h1, if_neg h2, if_neg h1, if_neg h2]
theorem am_cell_gx {G : am_Γ} {x : Nat × Nat × Nat × Nat} {M : am_M} {X : am_X} {l : am_L} {H : Heap} (hok : am_ok l = true) (hk : am_rk X.1) (h : am_cell G M X l H) : am_cell (am_gx G x) M X l H := by
  have ha : am_adr (am_gx G x) l = am_adr G l := by rw [am_adr_ok hok, am_adr_ok hok]
  unfold am_cell at h ⊢
  rw [ha]
  split
  · rename_i e
    simp only [e] at h
    refine h.to (fun k _ => ?_)
    unfold am_fv
    rw [am_rv_gx (G := G) (x := x) (hk l k)]
  · rename_i e
    simp only [e] at h
    exact h
  · rename_i e
    simp only [e] at h
    exact h
  · rename_i e
    simp only [e] at h
    have e2 : (fun j => am_rv (am_gx G x) (X.1 l j)) = fun j => am_rv G (X.1 l j) := funext fun j => am_rv_gx (hk l j)
    rw [e2]
    exact h
  · trivial
theorem am_HR.gx {G : am_Γ} {x : Nat × Nat × Nat × Nat} {M : am_M} {X X' : am_X} {H : Heap} (h : am_HR G M X H) (h1 : X'.1 = X.1) (h2 : X'.2.1 = X.2.1) (hx : am_HX (am_gx G x) X' H) : am_HR (am_gx G x) M X' H := by
  obtain ⟨a1, a2, a4, a5⟩ := h
  refine ⟨fun l hl h0 => ?_, a2, by rw [h1, h2]; exact a4, hx⟩
  rw [h2] at hl
  have := am_cell_gx (x := x) (am_al_ok hl) a5.1 (a1 l hl h0)
  exact this.kept rfl rfl (by rw [h1])
/-- the String constants of the law, by their entries: their cells and their bytes lie below our own -/
def am_six : Nat → Nat := fun k => match k with | 0 => 241 | 1 => 249 | 2 => 251 | 3 => 257 | 4 => 259 | 5 => 261 | 6 => 275 | 7 => 280 | _ => 291
def am_stx : Nat → String := fun k => match k with | 0 => "h" | 1 => ";e" | 2 => "=" | 3 => "q" | 4 => ":7-" | 5 => ";d" | 6 => "z" | 7 => "h1;h0" | _ => "0>5:????????"
def am_Sg (G : am_Γ) (U : State) (H : Heap) : Prop := ∀ k, k < 9 → ∃ a b : Nat, vk_R RL (am_six k) (am_stx k) a U ∧ (a < am_b0 G ∧ b < am_b0 G ∧ a ≠ b) ∧ am_so G a b (am_lit k) H
theorem am_Sg.kept {G : am_Γ} {U : State} {H H' : Heap} (h : am_Sg G U H) (hq : ∀ q : Nat, q < am_b0 G → H'[q]? = H[q]?) : am_Sg G U H' := by
  intro k hk
  obtain ⟨a, b, h1, h2, h4⟩ := h k hk
  exact ⟨a, b, h1, h2, h4.kept (hq a h2.1) (hq b h2.2.1)⟩
theorem am_Sg.warm {G : am_Γ} {s U : State} {H : Heap} (hW : s.WarmedH U.vm) (h : am_Sg G s H) : am_Sg G U H := by
  intro k hk
  obtain ⟨a, b, h1, h2⟩ := h k hk
  exact ⟨a, b, h1.warm hW, h2⟩
theorem am_Sg.same {G : am_Γ} {u U : State} {H : Heap} (hv : U.vm = u.vm) (h : am_Sg G u H) : am_Sg G U H := by
  intro k hk
  obtain ⟨a, b, h1, h2⟩ := h k hk
  exact ⟨a, b, h1.same hv, h2⟩
/-- what the JDK's own statics hold -/
def am_dgt (o : Nat) : Nat → Int32 := fun j => if o = 0 then nI (48 + j % 10) else nI (48 + j / 10)
def am_Js (G : am_Γ) (U : State) (H : Heap) : Prop := va_Z "java/lang/String" "COMPACT_STRINGS" "Z" (.int 1) (am_A0 G) U H ∧ (∀ o, o < 2 → ∃ q : Nat, va_Z "java/lang/Integer" (if o = 0 then "DigitOnes" else "DigitTens") "[B" (.ref q) (am_A0 G) U H ∧ va_T .byte q 100 (fun j => .int (am_dgt o j)) (am_A0 G) U H) ∧ va_Zq "jdk/internal/util/Preconditions" "SIOOBE_FORMATTER" "Ljava/util/function/BiFunction;" (am_A0 G) U H
theorem am_Js.kept {G : am_Γ} {U : State} {H H' : Heap} (h : am_Js G U H) (hq : ∀ a : Nat, a < H.size → ¬ am_A0 G a → H'[a]? = H[a]?) : am_Js G U H' :=
  ⟨h.1.kept hq, fun o ho => by obtain ⟨q, h1, h2⟩ := h.2.1 o ho; exact ⟨q, h1.kept hq, h2.kept hq⟩, h.2.2.kept hq⟩
theorem am_Js.moved {G : am_Γ} {u U : State} {H : Heap} (hvm : u.vm.Alike U.vm) (h : am_Js G u H) : am_Js G U H :=
  ⟨va_Z.moved hvm h.1, fun o ho => by obtain ⟨q, h1, h2⟩ := h.2.1 o ho; exact ⟨q, va_Z.moved hvm h1, va_T.moved hvm h2⟩, va_Zq.moved hvm h.2.2⟩
/-- three private methods of the JDK's, asked of a StringBuilder -/
def j_X : List Cond := [.selects "java/lang/StringBuilder" ⟨"java/lang/AbstractStringBuilder", "ensureCapacityInternal", "(I)V"⟩ ⟨"java/lang/AbstractStringBuilder", "ensureCapacityInternal", "(I)V"⟩, .selects "java/lang/StringBuilder" ⟨"java/lang/AbstractStringBuilder", "inflateIfNeededFor", "(Ljava/lang/String;)V"⟩ ⟨"java/lang/AbstractStringBuilder", "inflateIfNeededFor", "(Ljava/lang/String;)V"⟩, .selects "java/lang/StringBuilder" ⟨"java/lang/AbstractStringBuilder", "putStringAt", "(ILjava/lang/String;)V"⟩ ⟨"java/lang/AbstractStringBuilder", "putStringAt", "(ILjava/lang/String;)V"⟩]
theorem j_X_good : j_X.all goodWord = true := by decide +kernel
theorem j_X_tabs : ∀ w ∈ j_X, w.onTables = true := by
  intro w hw
  simp only [j_X, List.mem_cons, List.not_mem_nil, or_false] at hw
  rcases hw with rfl | rfl | rfl <;> rfl
def am_Sl (U : State) : Prop := ∀ w ∈ j_X, w.before #[] U = true
theorem am_Sl.warm {s U : State} (hW : s.WarmedH U.vm) (h : am_Sl s) : am_Sl U := fun w hw => word_at hW (good_of_word (List.all_eq_true.mp j_X_good w hw)) (h w hw)
theorem am_Sl.same {u U : State} (hv : u.vm = U.vm) (h : am_Sl u) : am_Sl U := fun w hw => va_tabs (j_X_tabs w hw) hv (h w hw)
/-- the locals -/
def am_ll (G : am_Γ) : Nat → am_S → List (Nat × Value)
  | _, [] => []
  | i, none :: l => am_ll G (i + 1) l
  | i, some v :: l => (i, am_tv G v) :: am_ll G (i + 1) l
def am_lv (G : am_Γ) (nL : Nat) (ls : am_S) (lsc : Array Slot) : Prop := lv_has lsc nL (am_ll G 0 ls) ∧ ls.length = nL
theorem am_ll_mem {G : am_Γ} {q : Nat × Value} : ∀ {ls : am_S} {i : Nat}, q ∈ am_ll G i ls ↔ ∃ (k : Nat) (v : am_V), ls[k]? = some (some v) ∧ q = (i + k, am_tv G v)
  | [], i => by simp [am_ll]
  | none :: l, i => by
    rw [am_ll, am_ll_mem]
    constructor
    · rintro ⟨k, v, h1, h2⟩
      exact ⟨k + 1, v, by simpa using h1, by rw [h2]; congr 1; omega⟩
    · rintro ⟨k, v, h1, h2⟩
      cases k with
      | zero => simp at h1
      | succ k => exact ⟨k, v, by simpa using h1, by rw [h2]; congr 1; omega⟩
  | some w :: l, i => by
    rw [am_ll, List.mem_cons, am_ll_mem]
    constructor
    · rintro (h | ⟨k, v, h1, h2⟩)
      · exact ⟨0, w, by simp, h⟩
      · exact ⟨k + 1, v, by simpa using h1, by rw [h2]; congr 1; omega⟩
    · rintro ⟨k, v, h1, h2⟩
      cases k with
      | zero =>
        left
        simp at h1
        rw [h2, h1]; rfl
      | succ k => exact Or.inr ⟨k, v, by simpa using h1, by rw [h2]; congr 1; omega⟩
theorem am_lv.at {G : am_Γ} {nL : Nat} {ls : am_S} {lsc : Array Slot} (h : am_lv G nL ls lsc) {i : Nat} {v : am_V} (hv : ls[i]? = some (some v)) : lsc[i]? = some (.val (am_tv G v)) :=
  h.1.2.2 (i, am_tv G v) (am_ll_mem.mpr ⟨i, v, hv, by simp⟩)
theorem am_put_len : ∀ (ls : am_S) (i : Nat) (v : Option am_V), (am_put ls i v).length = ls.length
  | [], _, _ => by simp [am_put]
  | _ :: _, 0, _ => by simp [am_put]
  | [_], 1, _ => by simp [am_put]
  | _ :: _ :: _, 1, _ => by simp [am_put]
  | a :: l, n + 2, v => by simp [am_put, am_put_len l (n + 1) v]
theorem am_put_get : ∀ (ls : am_S) (i : Nat) (v : Option am_V) (j : Nat), i < ls.length → (am_put ls i v)[j]? = if j = i then some v else if j + 1 = i then (ls[j]?).map am_k else ls[j]?
  | [], _, _, _, h => by simp at h
  | a :: l, 0, v, j, _ => by
    cases j with
    | zero => simp [am_put]
    | succ j => simp [am_put]
  | [_], 1, _, _, h => by simp at h
  | a :: b :: l, 1, v, j, _ => by
    match j with
    | 0 => simp [am_put]
    | 1 => simp [am_put]
    | j + 2 => simp [am_put]
  | a :: l, n + 2, v, j, h => by
    rw [am_put]
    cases j with
    | zero => simp
    | succ j =>
      rw [List.getElem?_cons_succ, am_put_get l (n + 1) v j (by simp only [List.length_cons] at h; omega), List.getElem?_cons_succ]
      by_cases h1 : j = n + 1
      · subst h1; simp
      · by_cases h2 : j + 1 = n + 1
        · rw [if_neg h1, if_pos h2, if_neg (by omega), if_pos (by omega)]
        · rw [if_neg h1, if_neg h2, if_neg (by omega), if_neg (by omega)]
theorem am_k_some {a : Option am_V} {v : am_V} {G : am_Γ} (h : am_k a = some v) : a = some v ∧ (am_tv G v).category = 1 := by
  unfold am_k at h
  split at h
  · cases h
  · cases h
  · subst h
    rename_i h1 h2
    refine ⟨rfl, ?_⟩
    cases v with
    | inl w =>
      cases w with
      | int _ => rfl
      | long x => exact absurd rfl (h2 x)
      | float _ => rfl
      | double x => exact absurd rfl (h1 x)
      | null => rfl
      | ref _ => rfl
      | retAddr q => rfl
    | inr o => cases o <;> rfl
theorem am_lv.sub {G : am_Γ} {nL : Nat} {ls : am_S} {lsc : Array Slot} {lv : List (Nat × Value)} (h : lv_has lsc nL lv) (hl : ls.length = nL) (hs : ∀ q ∈ am_ll G 0 ls, q ∈ lv) : am_lv G nL ls lsc := ⟨⟨h.1, h.2.1, fun q hq => h.2.2 q (hs q hq)⟩, hl⟩
theorem am_put_sub {G : am_Γ} {ls : am_S} {i : Nat} (hi : i < ls.length) (v : Option am_V) (w : Value) (hv : ∀ u, v = some u → am_tv G u = w) : ∀ q ∈ am_ll G 0 (am_put ls i v), q ∈ (i, w) :: (am_ll G 0 ls).filter (fun q => !(q.1 == i) && !(q.1 + 1 == i && q.2.category == 2)) := by
  intro q hq
  obtain ⟨j, u, h1, rfl⟩ := am_ll_mem.mp hq
  rw [am_put_get ls i v j hi] at h1
  rw [Nat.zero_add]
  by_cases e : j = i
  · rw [if_pos e] at h1
    rw [e, hv u (Option.some.inj h1)]
    exact List.mem_cons_self
  · rw [if_neg e] at h1
    refine List.mem_cons_of_mem _ (List.mem_filter.mpr ?_)
    by_cases e2 : j + 1 = i
    · rw [if_pos e2] at h1
      cases hj : ls[j]? with
      | none => rw [hj] at h1; cases h1
      | some a =>
        rw [hj] at h1
        obtain ⟨h3, h4⟩ := am_k_some (G := G) (Option.some.inj h1)
        subst h3
        refine ⟨am_ll_mem.mpr ⟨j, u, hj, by simp⟩, ?_⟩
        simp [e, h4]
    · rw [if_neg e2] at h1
      refine ⟨am_ll_mem.mpr ⟨j, u, h1, by simp⟩, ?_⟩
      simp [e, e2]
theorem am_put2_sub {G : am_Γ} {ls : am_S} {i : Nat} (hi : i + 1 < ls.length) (v : am_V) : ∀ q ∈ am_ll G 0 (am_put2 ls i v), q ∈ (i, am_tv G v) :: (am_ll G 0 ls).filter (fun q => !(q.1 == i) && (!(q.1 == i + 1) && !(q.1 + 1 == i && q.2.category == 2))) := by
  intro q hq
  obtain ⟨j, u, h1, rfl⟩ := am_ll_mem.mp hq
  unfold am_put2 at h1
  rw [Nat.zero_add]
  have hne : j ≠ i + 1 := by
    intro e
    subst e
    rw [List.getElem?_set_self (by rw [am_put_len]; exact hi)] at h1
    cases h1
  rw [List.getElem?_set_ne (Ne.symm hne), am_put_get ls i _ j (by omega)] at h1
  by_cases e : j = i
  · rw [if_pos e] at h1
    rw [e, ← Option.some.inj (Option.some.inj h1)]
    exact List.mem_cons_self
  · rw [if_neg e] at h1
    refine List.mem_cons_of_mem _ (List.mem_filter.mpr ?_)
    by_cases e2 : j + 1 = i
    · rw [if_pos e2] at h1
      cases hj : ls[j]? with
      | none => rw [hj] at h1; cases h1
      | some a =>
        rw [hj] at h1
        obtain ⟨h3, h4⟩ := am_k_some (G := G) (Option.some.inj h1)
        subst h3
        refine ⟨am_ll_mem.mpr ⟨j, u, hj, by simp⟩, ?_⟩
        simp [e, h4, hne]
    · rw [if_neg e2] at h1
      refine ⟨am_ll_mem.mpr ⟨j, u, h1, by simp⟩, ?_⟩
      simp [e, e2, hne]
end
section
/-! EACH INSTRUCTION IS KEPT (by gsound.py) -/
section AmInv
variable {α : Type} {w : α}
theorem am_asI_i {v : am_V} {f : Int32 → Option α} (h : am_asI v f = some w) : ∃ x, v = .inl (.int x) ∧ f x = some w := by
  unfold am_asI at h; split at h
  · exact ⟨_, rfl, h⟩
  · cases h
theorem am_asJ_i {v : am_V} {f : Int64 → Option α} (h : am_asJ v f = some w) : ∃ x, v = .inl (.long x) ∧ f x = some w := by
  unfold am_asJ at h; split at h
  · exact ⟨_, rfl, h⟩
  · cases h
theorem am_o2_i {β : Type} {o : Option β} {f : β → Option α} {x : Option α} (h : am_o2 o f x = some w) : (∃ t, o = some t ∧ f t = some w) ∨ (o = none ∧ x = some w) := by
  unfold am_o2 at h; split at h
  · exact Or.inl ⟨_, rfl, h⟩
  · exact Or.inr ⟨rfl, h⟩
theorem am_asF_i {v : am_V} {f : UInt32 → Option α} (h : am_asF v f = some w) : ∃ x, v = .inl (.float x) ∧ f x = some w := by
  unfold am_asF at h; split at h
  · exact ⟨_, rfl, h⟩
  · cases h
theorem am_asD_i {v : am_V} {f : UInt64 → Option α} (h : am_asD v f = some w) : ∃ x, v = .inl (.double x) ∧ f x = some w := by
  unfold am_asD at h; split at h
  · exact ⟨_, rfl, h⟩
  · cases h
theorem am_asP_i {v : am_V} {f : am_L → Option α} (h : am_asP v f = some w) : ∃ x, v = .inr (some x) ∧ f x = some w := by
  unfold am_asP at h; split at h
  · exact ⟨_, rfl, h⟩
  · cases h
theorem am_popI_i {st : List am_V} {f : Int32 → List am_V → Option α} (h : am_popI st f = some w) : ∃ x r, st = .inl (.int x) :: r ∧ f x r = some w := by
  unfold am_popI at h; split at h
  · exact ⟨_, _, rfl, h⟩
  · cases h
theorem am_popJ_i {st : List am_V} {f : Int64 → List am_V → Option α} (h : am_popJ st f = some w) : ∃ x r, st = .inl (.long x) :: r ∧ f x r = some w := by
  unfold am_popJ at h; split at h
  · exact ⟨_, _, rfl, h⟩
  · cases h
theorem am_popF_i {st : List am_V} {f : UInt32 → List am_V → Option α} (h : am_popF st f = some w) : ∃ x r, st = .inl (.float x) :: r ∧ f x r = some w := by
  unfold am_popF at h; split at h
  · exact ⟨_, _, rfl, h⟩
  · cases h
theorem am_popD_i {st : List am_V} {f : UInt64 → List am_V → Option α} (h : am_popD st f = some w) : ∃ x r, st = .inl (.double x) :: r ∧ f x r = some w := by
  unfold am_popD at h; split at h
  · exact ⟨_, _, rfl, h⟩
  · cases h
theorem am_popP_i {st : List am_V} {f : am_L → List am_V → Option α} (h : am_popP st f = some w) : ∃ x r, st = .inr (some x) :: r ∧ f x r = some w := by
  unfold am_popP at h; split at h
  · exact ⟨_, _, rfl, h⟩
  · cases h
def am_one (v : am_V) : Prop := (∃ x, v = .inl (.int x)) ∨ ∃ l, v = .inr (some l)
theorem am_one.cat {G : am_Γ} {v : am_V} (h : am_one v) : (am_tv G v).category = 1 := by
  rcases h with ⟨x, rfl⟩ | ⟨l, rfl⟩ <;> rfl
theorem am_pop1_i {st : List am_V} {f : am_V → List am_V → Option α} (h : am_pop1 st f = some w) : ∃ x r, st = x :: r ∧ am_one x ∧ f x r = some w := by
  unfold am_pop1 at h; split at h
  · exact ⟨_, _, rfl, Or.inl ⟨_, rfl⟩, h⟩
  · exact ⟨_, _, rfl, Or.inr ⟨_, rfl⟩, h⟩
  · cases h
theorem am_popN_i {f : List am_V → List am_V → Option α} : ∀ {n : Nat} {acc st : List am_V}, am_popN n acc st f = some w → ∃ vs r, vs.length = n ∧ st = vs ++ r ∧ (∀ v ∈ vs, am_one v) ∧ f (vs.reverse ++ acc) r = some w
  | 0, acc, st, h => ⟨[], st, rfl, rfl, (fun _ h => by cases h), h⟩
  | n + 1, acc, st, h => by
    unfold am_popN at h
    obtain ⟨x, r, rfl, h1, h⟩ := am_pop1_i h
    obtain ⟨vs, r2, h2, h3, h4, h5⟩ := am_popN_i h
    refine ⟨x :: vs, r2, by simp [h2], by simp [h3], fun v hv => ?_, by simpa using h5⟩
    rcases List.mem_cons.mp hv with rfl | hv
    · exact h1
    · exact h4 v hv
theorem am_sm_i {st : List am_V} {x : Option α} (h : am_sm st x = some w) : st.length ≤ 4 ∧ x = some w := by
  unfold am_sm at h; split at h
  · exact ⟨by simp, h⟩
  · exact ⟨by simp, h⟩
  · exact ⟨by simp, h⟩
  · exact ⟨by simp, h⟩
  · exact ⟨by simp, h⟩
  · cases h
theorem am_j_i {pc : Nat} {o : Int} {f : Nat → Option α} (h : am_j pc o f = some w) : ∃ t : Nat, (pc : Int) + o = (t : Int) ∧ f t = some w := by
  unfold am_j at h; split at h
  · rename_i t ht; exact ⟨t, ht, h⟩
  · cases h
theorem am_get_i {f : am_V → Option α} : ∀ {ls : am_S} {i : Nat}, am_get ls i f = some w → ∃ v, ls[i]? = some (some v) ∧ f v = some w
  | [], 0, h => by cases h
  | [], _ + 1, h => by cases h
  | none :: _, 0, h => by cases h
  | some v :: _, 0, h => ⟨v, rfl, h⟩
  | none :: l, n + 1, h => by
    obtain ⟨v, h1, h2⟩ := am_get_i (ls := l) (i := n) h
    exact ⟨v, by simpa using h1, h2⟩
  | some _ :: l, n + 1, h => by
    obtain ⟨v, h1, h2⟩ := am_get_i (ls := l) (i := n) h
    exact ⟨v, by simpa using h1, h2⟩
theorem am_if_i {c : Prop} [Decidable c] {a : Option α} (h : (if c then a else none) = some w) : c ∧ a = some w := by
  split at h
  · exact ⟨by assumption, h⟩
  · cases h
theorem am_ifn_i {c : Prop} [Decidable c] {a : Option α} (h : (if c then none else a) = some w) : ¬ c ∧ a = some w := by
  split at h
  · cases h
  · exact ⟨by assumption, h⟩
theorem am_chk_i {X : am_X} {l : am_L} {ci : Nat} {x : Option α} (h : am_chk X l ci x = some w) : am_al X.2.1 l = true ∧ am_kd l = (0, ci, 0) ∧ x = some w := by
  unfold am_chk at h
  obtain ⟨⟨h1, h2⟩, h3⟩ := am_if_i h
  exact ⟨h1, h2, h3⟩
theorem am_arr_i {X : am_X} {l : am_L} {k a b : Nat} {i : Int32} {n : Nat} {x : Nat → Option α} (h : am_arr X l k a b i n x = some w) : am_al X.2.1 l = true ∧ am_kd l = (k, a, b) ∧ vp_in i n ∧ x i.toNatClampNeg = some w := by
  unfold am_arr at h
  obtain ⟨⟨h1, h2, h3⟩, h4⟩ := am_if_i h
  exact ⟨h1, h2, h3, h4⟩
theorem am_nu_i {X : am_X} {k : Nat × Nat × Nat} {n : Nat} {f : am_L → am_X → Option α} (h : am_nu X k n f = some w) : ∃ c l, X.2.1 = some c ∧ am_ok l = true ∧ am_ad l = c ∧ am_kd l = k ∧ l.1 ≠ 0 ∧ f l (X.1, am_nph c, X.2.2.1 + 1, X.2.2.2.1 + n, X.2.2.2.2) = some w := by
  unfold am_nu at h; split at h
  · cases h
  · rename_i c hc
    obtain ⟨⟨h1, h2, h3, h4⟩, h5⟩ := am_if_i h
    exact ⟨c, _, hc, h1, h2, h3, h4, h5⟩
end AmInv
/-- a place that is an object, or an array of ours, isn't the script -/
theorem am_kd_ne {l : am_L} {k a b : Nat} (h : am_kd l = (k, a, b)) (hk : k ≠ 6) : l.1 ≠ 0 := by
  intro h0
  obtain ⟨t, n, q⟩ := l
  dsimp only at h0
  subst h0
  have : (6, 0, 0) = (k, a, b) := h
  cases this
  exact hk rfl
theorem am_rv_ref {G : am_Γ} {l : am_L} (h : l.1 ≠ 0) : am_rv G (some l) = .ref (am_adr G l) := by
  show Value.ref (if l.1 = 0 then G.2.1 else am_adr G l) = _
  rw [if_neg h]
theorem am_kd_ci {l : am_L} {ci : Nat} (h : am_kd l = (0, ci, 0)) : ci < 10 := by
  obtain ⟨t, n, q⟩ := l
  simp only [am_kd] at h
  split at h <;> simp only [Prod.mk.injEq] at h <;> omega
theorem am_fl_w {own ix ci j : Nat} (h : am_fl own ix = some (ci, j)) : (Cond.fieldLink (am_cR own) ix (am_cR ci) (am_cT ci j).2.1 (am_cT ci j).2.2.1) ∈ am_W ∧ j < am_cN ci ∧ ci < 10 ∧ (am_cT ci j).1 = am_cR ci := by
  obtain ⟨i, hi⟩ := am_al2_in am_fl_ok _ (am_look_in h)
  simp only [am_flw, Bool.and_eq_true, decide_eq_true_eq] at hi
  exact ⟨am_at_in hi.1.1.1, hi.1.1.2, hi.1.2, hi.2⟩
theorem am_fk_ty {ci j : Nat} (hci : ci < 10) (hj : j < am_cN ci) : (am_fk ci j = 0 → am_cY ci j = .int) ∧ (am_fk ci j = 1 → am_cY ci j = .boolean) ∧ (am_fk ci j = 2 → am_cY ci j = .char) := by
  have h := am_cY_ok ci hci j hj
  unfold am_fk
  split
  · rename_i e
    rw [e] at h
    refine ⟨fun _ => ?_, fun q => (by cases q), fun q => (by cases q)⟩
    exact (Option.some.inj ((show parseFieldDescriptor "I" = some .int by decide +kernel).symm.trans h)).symm
  · rename_i e
    rw [e] at h
    refine ⟨fun q => (by cases q), fun _ => ?_, fun q => by cases q⟩
    exact (Option.some.inj ((show parseFieldDescriptor "Z" = some .boolean by decide +kernel).symm.trans h)).symm
  · rename_i e
    rw [e] at h
    refine ⟨fun q => (by cases q), fun q => (by cases q), fun _ => ?_⟩
    exact (Option.some.inj ((show parseFieldDescriptor "C" = some .char by decide +kernel).symm.trans h)).symm
  all_goals exact ⟨fun q => (by cases q), fun q => (by cases q), fun q => by cases q⟩
/-- what an int field of a small type may be given -/
theorem am_pc_nar {ci j : Nat} (hci : ci < 10) (hj : j < am_cN ci) {x : Int32} (h : am_pc (am_fk ci j) x = true) : narrow (am_cY ci j) (.int x) = .int x ∧ fits (am_cY ci j) (.int x) = true := by
  obtain ⟨h0, h1, h2⟩ := am_fk_ty hci hj
  unfold am_pc at h
  split at h
  · rename_i e; rw [h0 e]; exact ⟨rfl, rfl⟩
  · rename_i e; rw [h1 e]
    simp only [Bool.or_eq_true, beq_iff_eq] at h
    rcases h with h | h <;> rw [h] <;> exact ⟨by decide, by decide⟩
  · rename_i e; rw [h2 e]
    simp only [decide_eq_true_eq] at h
    have h1 := Int32.le_iff_toInt_le.mp h.1
    have h2 := Int32.le_iff_toInt_le.mp h.2
    have h3 := lg_i2c_word (v := x) (by simpa using h1) (by have : (65535 : Int32).toInt = 65535 := by decide
                                                            omega)
    rw [lg_i2c_nf] at h3
    exact ⟨by simp only [narrow, h3], by simp [fits, h]⟩
  · cases h
def am_tys (G : am_Γ) : List (ClassId × FieldType) := [(G.2.2.2.1 0, .int), (G.2.2.2.1 1, .char), (G.2.2.2.1 2, .long), (G.2.2.2.1 3, .byte), (G.2.2.2.1 10, .object RX0), (G.2.2.2.1 12, .object RX2), (G.2.2.2.1 14, .object RX4), (G.2.2.2.1 15, .object RX5), (G.2.2.2.1 17, .object RX7)]
section AmSound
variable {p : Program} {l : Launch} {e : Env} {R : Room} {s : State} {m : MethodId} {args : Array Value} {below : List Frame} {meth : Method} {c : Code} {Q : State → Prop} {G : am_Γ} {z : Nat} {X0 : am_X} {call : Nat → List am_V → am_M → am_X → Option am_R} {pc : Nat} {ls : am_S} {st : List am_V} {M : am_M} {X : am_X}
abbrev am_A (G : am_Γ) : Nat → Prop := fun q => am_b0 G ≤ q
def am_Sm (p : Program) (l : Launch) (e : Env) (R : Room) (s : State) (m : MethodId) (args : Array Value) (below : List Frame) (meth : Method) (c : Code) (Q : State → Prop) (G : am_Γ) (z : Nat) (X0 : am_X) (w : Nat × am_S × List am_V × am_M × am_X) : Prop :=
  ∀ (H : Heap) (locs : List Loc) (lsc : Array Slot), am_HR G w.2.2.2.1 w.2.2.2.2 H → va_S (am_A G) s.heap H locs → am_lv G (am_mL z) w.2.1 lsc → W p l e R s m args below meth c H locs (w.2.2.2.2.2.2.1 - X0.2.2.1) (w.2.2.2.2.2.2.2.1 - X0.2.2.2.1) Q (F0 m w.1 lsc (w.2.2.1.map (am_tv G)))
def am_Cx (p : Program) (l : Launch) (s : State) (m : MethodId) (args : Array Value) (meth : Method) (c : Code) (G : am_Γ) (z : Nat) : Prop :=
  p.tables.exec = Jvm.exec ∧ c.code = am_by z ∧ c.maxLocals = am_mL z ∧ s.vm.findClass (am_cR (am_own z)) = some m.cls ∧ (∀ w ∈ am_W, w.before args s = true) ∧ va_K G.2.2.1 am_cl (am_tys G) s ∧ vx_Zq Bundle.tN "UNASSIGNED_STACK" Bundle.steD (am_A G) s s.heap ∧ vx_Zq Bundle.tN "SUPPRESSED_SENTINEL" Bundle.listD (am_A G) s s.heap ∧ va_X G.2.1 G.2.2.2.2.1 G.2.2.2.2.2.1 s s.heap ∧ (G.2.1 < am_b0 G ∧ am_b0 G ≤ s.heap.size ∧ G.2.2.2.2.1 ≤ 2048 ∧ am_b0 G ≤ G.1) ∧ meth.locks = false ∧ l.stackTraces = false ∧ (am_ini z = true → meth.name = "<init>")
theorem am_Cx.b0 (C : am_Cx p l s m args meth c G z) : am_b0 G ≤ G.1 := C.2.2.2.2.2.2.2.2.2.1.2.2.2
theorem am_s_iload_n {j : Fin 4} (C : am_Cx p l s m args meth c G z) (dg : decode (am_by z) pc = .ok (.iload_n j, 1)) {w} (h : am_st call z (.iload_n j) pc ls st M X = some (.inl w)) (K : am_Sm p l e R s m args below meth c Q G z X0 w) : am_Sm p l e R s m args below meth c Q G z X0 (pc, ls, st, M, X) := by
  obtain ⟨hx, hb, hml, hown, hts, hK, hU, hN, hX, hbb, hlk, hst, hini⟩ := C
  simp only [am_st, am_ex] at h
  intro H locs lsc hH hS hl
  obtain ⟨v, g1, h_1⟩ := am_get_i h
  obtain ⟨x, rfl, h_2⟩ := am_asI_i h_1
  cases h_2
  exact lv_iload_n hx hb dg rfl (hl.at g1) (K H locs lsc hH hS hl)
theorem am_s_iload {j : Nat} (C : am_Cx p l s m args meth c G z) (dg : decode (am_by z) pc = .ok (.iload j, 2)) {w} (h : am_st call z (.iload j) pc ls st M X = some (.inl w)) (K : am_Sm p l e R s m args below meth c Q G z X0 w) : am_Sm p l e R s m args below meth c Q G z X0 (pc, ls, st, M, X) := by
  obtain ⟨hx, hb, hml, hown, hts, hK, hU, hN, hX, hbb, hlk, hst, hini⟩ := C
  simp only [am_st, am_ex] at h
  intro H locs lsc hH hS hl
  obtain ⟨v, g1, h_1⟩ := am_get_i h
  obtain ⟨x, rfl, h_2⟩ := am_asI_i h_1
  cases h_2
  exact lv_iload hx hb dg (hl.at g1) (K H locs lsc hH hS hl)
theorem am_s_aload_n {j : Fin 4} (C : am_Cx p l s m args meth c G z) (dg : decode (am_by z) pc = .ok (.aload_n j, 1)) {w} (h : am_st call z (.aload_n j) pc ls st M X = some (.inl w)) (K : am_Sm p l e R s m args below meth c Q G z X0 w) : am_Sm p l e R s m args below meth c Q G z X0 (pc, ls, st, M, X) := by
  obtain ⟨hx, hb, hml, hown, hts, hK, hU, hN, hX, hbb, hlk, hst, hini⟩ := C
  simp only [am_st, am_ex] at h
  intro H locs lsc hH hS hl
  obtain ⟨v, g1, h_1⟩ := am_get_i h
  obtain ⟨x, rfl, h_2⟩ := am_asP_i h_1
  cases h_2
  exact lv_aload_n hx hb dg rfl (hl.at g1) (K H locs lsc hH hS hl)
theorem am_s_aload {j : Nat} (C : am_Cx p l s m args meth c G z) (dg : decode (am_by z) pc = .ok (.aload j, 2)) {w} (h : am_st call z (.aload j) pc ls st M X = some (.inl w)) (K : am_Sm p l e R s m args below meth c Q G z X0 w) : am_Sm p l e R s m args below meth c Q G z X0 (pc, ls, st, M, X) := by
  obtain ⟨hx, hb, hml, hown, hts, hK, hU, hN, hX, hbb, hlk, hst, hini⟩ := C
  simp only [am_st, am_ex] at h
  intro H locs lsc hH hS hl
  obtain ⟨v, g1, h_1⟩ := am_get_i h
  obtain ⟨x, rfl, h_2⟩ := am_asP_i h_1
  cases h_2
  exact lv_aload hx hb dg (hl.at g1) (K H locs lsc hH hS hl)
theorem am_s_fload {j : Nat} (C : am_Cx p l s m args meth c G z) (dg : decode (am_by z) pc = .ok (.fload j, 2)) {w} (h : am_st call z (.fload j) pc ls st M X = some (.inl w)) (K : am_Sm p l e R s m args below meth c Q G z X0 w) : am_Sm p l e R s m args below meth c Q G z X0 (pc, ls, st, M, X) := by
  obtain ⟨hx, hb, hml, hown, hts, hK, hU, hN, hX, hbb, hlk, hst, hini⟩ := C
  simp only [am_st, am_ex] at h
  intro H locs lsc hH hS hl
  obtain ⟨v, g1, h_1⟩ := am_get_i h
  obtain ⟨x, rfl, h_2⟩ := am_asF_i h_1
  cases h_2
  exact lv_fload hx hb dg (hl.at g1) (K H locs lsc hH hS hl)
theorem am_s_dload {j : Nat} (C : am_Cx p l s m args meth c G z) (dg : decode (am_by z) pc = .ok (.dload j, 2)) {w} (h : am_st call z (.dload j) pc ls st M X = some (.inl w)) (K : am_Sm p l e R s m args below meth c Q G z X0 w) : am_Sm p l e R s m args below meth c Q G z X0 (pc, ls, st, M, X) := by
  obtain ⟨hx, hb, hml, hown, hts, hK, hU, hN, hX, hbb, hlk, hst, hini⟩ := C
  simp only [am_st, am_ex] at h
  intro H locs lsc hH hS hl
  obtain ⟨v, g1, h_1⟩ := am_get_i h
  obtain ⟨x, rfl, h_2⟩ := am_asD_i h_1
  cases h_2
  exact lv_dload hx hb dg (hl.at g1) (K H locs lsc hH hS hl)
theorem am_s_istore_n {j : Fin 4} (C : am_Cx p l s m args meth c G z) (dg : decode (am_by z) pc = .ok (.istore_n j, 1)) {w} (h : am_st call z (.istore_n j) pc ls st M X = some (.inl w)) (K : am_Sm p l e R s m args below meth c Q G z X0 w) : am_Sm p l e R s m args below meth c Q G z X0 (pc, ls, st, M, X) := by
  obtain ⟨hx, hb, hml, hown, hts, hK, hU, hN, hX, hbb, hlk, hst, hini⟩ := C
  simp only [am_st, am_ex] at h
  intro H locs lsc hH hS hl
  obtain ⟨x, st1, rfl, h_1⟩ := am_popI_i h
  obtain ⟨hj, h_2⟩ := am_if_i h_1
  cases h_2
  exact lv_istore_n hx hb dg rfl hl.1 (by rw [← hl.2]; exact hj) rfl (fun lsc' hl' => K H locs lsc' hH hS (am_lv.sub hl' (by rw [am_put_len]; exact hl.2) (am_put_sub hj _ _ (fun u e => by cases e; rfl))))
theorem am_s_istore {j : Nat} (C : am_Cx p l s m args meth c G z) (dg : decode (am_by z) pc = .ok (.istore j, 2)) {w} (h : am_st call z (.istore j) pc ls st M X = some (.inl w)) (K : am_Sm p l e R s m args below meth c Q G z X0 w) : am_Sm p l e R s m args below meth c Q G z X0 (pc, ls, st, M, X) := by
  obtain ⟨hx, hb, hml, hown, hts, hK, hU, hN, hX, hbb, hlk, hst, hini⟩ := C
  simp only [am_st, am_ex] at h
  intro H locs lsc hH hS hl
  obtain ⟨x, st1, rfl, h_1⟩ := am_popI_i h
  obtain ⟨hj, h_2⟩ := am_if_i h_1
  cases h_2
  exact lv_istore hx hb dg hl.1 (by rw [← hl.2]; exact hj) rfl (fun lsc' hl' => K H locs lsc' hH hS (am_lv.sub hl' (by rw [am_put_len]; exact hl.2) (am_put_sub hj _ _ (fun u e => by cases e; rfl))))
theorem am_s_astore_n {j : Fin 4} (C : am_Cx p l s m args meth c G z) (dg : decode (am_by z) pc = .ok (.astore_n j, 1)) {w} (h : am_st call z (.astore_n j) pc ls st M X = some (.inl w)) (K : am_Sm p l e R s m args below meth c Q G z X0 w) : am_Sm p l e R s m args below meth c Q G z X0 (pc, ls, st, M, X) := by
  obtain ⟨hx, hb, hml, hown, hts, hK, hU, hN, hX, hbb, hlk, hst, hini⟩ := C
  simp only [am_st, am_ex] at h
  intro H locs lsc hH hS hl
  obtain ⟨x, st1, rfl, h_1⟩ := am_popP_i h
  obtain ⟨hj, h_2⟩ := am_if_i h_1
  cases h_2
  exact lv_astore_n hx hb dg rfl hl.1 (by rw [← hl.2]; exact hj) rfl (fun lsc' hl' => K H locs lsc' hH hS (am_lv.sub hl' (by rw [am_put_len]; exact hl.2) (am_put_sub hj _ _ (fun u e => by cases e; rfl))))
theorem am_s_astore {j : Nat} (C : am_Cx p l s m args meth c G z) (dg : decode (am_by z) pc = .ok (.astore j, 2)) {w} (h : am_st call z (.astore j) pc ls st M X = some (.inl w)) (K : am_Sm p l e R s m args below meth c Q G z X0 w) : am_Sm p l e R s m args below meth c Q G z X0 (pc, ls, st, M, X) := by
  obtain ⟨hx, hb, hml, hown, hts, hK, hU, hN, hX, hbb, hlk, hst, hini⟩ := C
  simp only [am_st, am_ex] at h
  intro H locs lsc hH hS hl
  obtain ⟨x, st1, rfl, h_1⟩ := am_popP_i h
  obtain ⟨hj, h_2⟩ := am_if_i h_1
  cases h_2
  exact lv_astore hx hb dg hl.1 (by rw [← hl.2]; exact hj) rfl (fun lsc' hl' => K H locs lsc' hH hS (am_lv.sub hl' (by rw [am_put_len]; exact hl.2) (am_put_sub hj _ _ (fun u e => by cases e; rfl))))
theorem am_s_fstore {j : Nat} (C : am_Cx p l s m args meth c G z) (dg : decode (am_by z) pc = .ok (.fstore j, 2)) {w} (h : am_st call z (.fstore j) pc ls st M X = some (.inl w)) (K : am_Sm p l e R s m args below meth c Q G z X0 w) : am_Sm p l e R s m args below meth c Q G z X0 (pc, ls, st, M, X) := by
  obtain ⟨hx, hb, hml, hown, hts, hK, hU, hN, hX, hbb, hlk, hst, hini⟩ := C
  simp only [am_st, am_ex] at h
  intro H locs lsc hH hS hl
  obtain ⟨x, st1, rfl, h_1⟩ := am_popF_i h
  obtain ⟨hj, h_2⟩ := am_if_i h_1
  cases h_2
  exact lv_fstore hx hb dg hl.1 (by rw [← hl.2]; exact hj) rfl (fun lsc' hl' => K H locs lsc' hH hS (am_lv.sub hl' (by rw [am_put_len]; exact hl.2) (am_put_sub hj _ _ (fun u e => by cases e; rfl))))
theorem am_s_dstore {j : Nat} (C : am_Cx p l s m args meth c G z) (dg : decode (am_by z) pc = .ok (.dstore j, 2)) {w} (h : am_st call z (.dstore j) pc ls st M X = some (.inl w)) (K : am_Sm p l e R s m args below meth c Q G z X0 w) : am_Sm p l e R s m args below meth c Q G z X0 (pc, ls, st, M, X) := by
  obtain ⟨hx, hb, hml, hown, hts, hK, hU, hN, hX, hbb, hlk, hst, hini⟩ := C
  simp only [am_st, am_ex] at h
  intro H locs lsc hH hS hl
  obtain ⟨x, st1, rfl, h_1⟩ := am_popD_i h
  obtain ⟨hj, h_2⟩ := am_if_i h_1
  cases h_2
  exact lv_dstore hx hb dg hl.1 (by rw [← hl.2]; exact hj) rfl (fun lsc' hl' => K H locs lsc' hH hS (am_lv.sub hl' (by show (am_put2 _ _ _).length = _; rw [am_put2, List.length_set, am_put_len]; exact hl.2) (am_put2_sub hj _)))
theorem am_s_iinc {j : Nat} {k : Int} (C : am_Cx p l s m args meth c G z) (dg : decode (am_by z) pc = .ok (.iinc j k, 3)) {w} (h : am_st call z (.iinc j k) pc ls st M X = some (.inl w)) (K : am_Sm p l e R s m args below meth c Q G z X0 w) : am_Sm p l e R s m args below meth c Q G z X0 (pc, ls, st, M, X) := by
  obtain ⟨hx, hb, hml, hown, hts, hK, hU, hN, hX, hbb, hlk, hst, hini⟩ := C
  simp only [am_st, am_ex] at h
  intro H locs lsc hH hS hl
  obtain ⟨v, g1, h_1⟩ := am_get_i h
  obtain ⟨x, rfl, h_2⟩ := am_asI_i h_1
  cases h_2
  have hj : j < ls.length := (List.getElem?_eq_some_iff.mp g1).1
  obtain ⟨q, hq⟩ := List.getElem?_of_mem (am_ll_mem (G := G) (i := 0) |>.mpr ⟨j, _, g1, rfl⟩)
  rw [Nat.zero_add] at hq
  exact lv_iinc (k := q) hx hb dg hl.1 hq rfl (by rw [← hl.2]; exact hj) rfl (fun lsc' hl' => K H locs lsc' hH hS (am_lv.sub hl' (by rw [am_put_len]; exact hl.2) (am_put_sub hj _ _ (fun u e => by cases e; rfl))))
theorem am_s_iconst {k : Int} (C : am_Cx p l s m args meth c G z) (dg : decode (am_by z) pc = .ok (.iconst k, 1)) {w} (h : am_st call z (.iconst k) pc ls st M X = some (.inl w)) (K : am_Sm p l e R s m args below meth c Q G z X0 w) : am_Sm p l e R s m args below meth c Q G z X0 (pc, ls, st, M, X) := by
  obtain ⟨hx, hb, hml, hown, hts, hK, hU, hN, hX, hbb, hlk, hst, hini⟩ := C
  simp only [am_st, am_ex] at h
  intro H locs lsc hH hS hl
  cases h
  exact lv_iconst hx hb dg rfl (K H locs lsc hH hS hl)
theorem am_s_bipush {k : Int} (C : am_Cx p l s m args meth c G z) (dg : decode (am_by z) pc = .ok (.bipush k, 2)) {w} (h : am_st call z (.bipush k) pc ls st M X = some (.inl w)) (K : am_Sm p l e R s m args below meth c Q G z X0 w) : am_Sm p l e R s m args below meth c Q G z X0 (pc, ls, st, M, X) := by
  obtain ⟨hx, hb, hml, hown, hts, hK, hU, hN, hX, hbb, hlk, hst, hini⟩ := C
  simp only [am_st, am_ex] at h
  intro H locs lsc hH hS hl
  cases h
  exact lv_bipush hx hb dg rfl (K H locs lsc hH hS hl)
theorem am_s_sipush {k : Int} (C : am_Cx p l s m args meth c G z) (dg : decode (am_by z) pc = .ok (.sipush k, 3)) {w} (h : am_st call z (.sipush k) pc ls st M X = some (.inl w)) (K : am_Sm p l e R s m args below meth c Q G z X0 w) : am_Sm p l e R s m args below meth c Q G z X0 (pc, ls, st, M, X) := by
  obtain ⟨hx, hb, hml, hown, hts, hK, hU, hN, hX, hbb, hlk, hst, hini⟩ := C
  simp only [am_st, am_ex] at h
  intro H locs lsc hH hS hl
  cases h
  exact lv_sipush hx hb dg rfl (K H locs lsc hH hS hl)
theorem am_s_lconst {k : Fin 2} (C : am_Cx p l s m args meth c G z) (dg : decode (am_by z) pc = .ok (.lconst k, 1)) {w} (h : am_st call z (.lconst k) pc ls st M X = some (.inl w)) (K : am_Sm p l e R s m args below meth c Q G z X0 w) : am_Sm p l e R s m args below meth c Q G z X0 (pc, ls, st, M, X) := by
  obtain ⟨hx, hb, hml, hown, hts, hK, hU, hN, hX, hbb, hlk, hst, hini⟩ := C
  simp only [am_st, am_ex] at h
  intro H locs lsc hH hS hl
  cases h
  exact lv_lconst hx hb dg rfl (K H locs lsc hH hS hl)
theorem am_s_ldc {ix : Nat} (C : am_Cx p l s m args meth c G z) (dg : decode (am_by z) pc = .ok (.ldc ix, 2)) {w} (h : am_st call z (.ldc ix) pc ls st M X = some (.inl w)) (K : am_Sm p l e R s m args below meth c Q G z X0 w) : am_Sm p l e R s m args below meth c Q G z X0 (pc, ls, st, M, X) := by
  obtain ⟨hx, hb, hml, hown, hts, hK, hU, hN, hX, hbb, hlk, hst, hini⟩ := C
  simp only [am_st, am_ex] at h
  intro H locs lsc hH hS hl
  rcases am_o2_i h with ⟨v, hk, h⟩ | ⟨hk, h⟩
  · cases h
    obtain ⟨i, hi⟩ := am_al2_in am_kc_ok _ (am_look_in hk)
    exact lv_ldc hx hb hown (hts _ (am_at_in hi)) dg (K H locs lsc hH hS hl)
  · rcases am_o2_i h with ⟨v, hk, h⟩ | ⟨hk, h⟩
    · cases h
      obtain ⟨i, hi⟩ := am_al2_in am_kf_ok _ (am_look_in hk)
      exact lv_ldcf hx hb hown (hts _ (am_at_in hi)) dg (K H locs lsc hH hS hl)
    · cases h
theorem am_s_ldc2_w {ix : Nat} (C : am_Cx p l s m args meth c G z) (dg : decode (am_by z) pc = .ok (.ldc2_w ix, 3)) {w} (h : am_st call z (.ldc2_w ix) pc ls st M X = some (.inl w)) (K : am_Sm p l e R s m args below meth c Q G z X0 w) : am_Sm p l e R s m args below meth c Q G z X0 (pc, ls, st, M, X) := by
  obtain ⟨hx, hb, hml, hown, hts, hK, hU, hN, hX, hbb, hlk, hst, hini⟩ := C
  simp only [am_st, am_ex] at h
  intro H locs lsc hH hS hl
  rcases am_o2_i h with ⟨v, hk, h⟩ | ⟨hk, h⟩
  · cases h
    obtain ⟨i, hi⟩ := am_al2_in am_kl_ok _ (am_look_in hk)
    exact lv_ldc2 hx hb hown (hts _ (am_at_in hi)) dg (K H locs lsc hH hS hl)
  · rcases am_o2_i h with ⟨v, hk, h⟩ | ⟨hk, h⟩
    · cases h
      obtain ⟨i, hi⟩ := am_al2_in am_kd2_ok _ (am_look_in hk)
      exact lv_ldc2d hx hb hown (hts _ (am_at_in hi)) dg (K H locs lsc hH hS hl)
    · cases h
theorem am_s_lload_n {j : Fin 4} (C : am_Cx p l s m args meth c G z) (dg : decode (am_by z) pc = .ok (.lload_n j, 1)) {w} (h : am_st call z (.lload_n j) pc ls st M X = some (.inl w)) (K : am_Sm p l e R s m args below meth c Q G z X0 w) : am_Sm p l e R s m args below meth c Q G z X0 (pc, ls, st, M, X) := by
  obtain ⟨hx, hb, hml, hown, hts, hK, hU, hN, hX, hbb, hlk, hst, hini⟩ := C
  simp only [am_st, am_ex] at h
  intro H locs lsc hH hS hl
  obtain ⟨v, g1, h_1⟩ := am_get_i h
  obtain ⟨x, rfl, h_2⟩ := am_asJ_i h_1
  cases h_2
  exact lv_lload_n hx hb dg rfl (hl.at g1) (K H locs lsc hH hS hl)
theorem am_s_lload {j : Nat} (C : am_Cx p l s m args meth c G z) (dg : decode (am_by z) pc = .ok (.lload j, 2)) {w} (h : am_st call z (.lload j) pc ls st M X = some (.inl w)) (K : am_Sm p l e R s m args below meth c Q G z X0 w) : am_Sm p l e R s m args below meth c Q G z X0 (pc, ls, st, M, X) := by
  obtain ⟨hx, hb, hml, hown, hts, hK, hU, hN, hX, hbb, hlk, hst, hini⟩ := C
  simp only [am_st, am_ex] at h
  intro H locs lsc hH hS hl
  obtain ⟨v, g1, h_1⟩ := am_get_i h
  obtain ⟨x, rfl, h_2⟩ := am_asJ_i h_1
  cases h_2
  exact lv_lload hx hb dg (hl.at g1) (K H locs lsc hH hS hl)
theorem am_s_lstore_n {j : Fin 4} (C : am_Cx p l s m args meth c G z) (dg : decode (am_by z) pc = .ok (.lstore_n j, 1)) {w} (h : am_st call z (.lstore_n j) pc ls st M X = some (.inl w)) (K : am_Sm p l e R s m args below meth c Q G z X0 w) : am_Sm p l e R s m args below meth c Q G z X0 (pc, ls, st, M, X) := by
  obtain ⟨hx, hb, hml, hown, hts, hK, hU, hN, hX, hbb, hlk, hst, hini⟩ := C
  simp only [am_st, am_ex] at h
  intro H locs lsc hH hS hl
  obtain ⟨x, st1, rfl, h_1⟩ := am_popJ_i h
  obtain ⟨hj, h_2⟩ := am_if_i h_1
  cases h_2
  exact lv_lstore_n hx hb dg rfl hl.1 (by rw [← hl.2]; exact hj) rfl (fun lsc' hl' => K H locs lsc' hH hS (am_lv.sub hl' (by show (am_put2 _ _ _).length = _; rw [am_put2, List.length_set, am_put_len]; exact hl.2) (am_put2_sub hj _)))
theorem am_s_lstore {j : Nat} (C : am_Cx p l s m args meth c G z) (dg : decode (am_by z) pc = .ok (.lstore j, 2)) {w} (h : am_st call z (.lstore j) pc ls st M X = some (.inl w)) (K : am_Sm p l e R s m args below meth c Q G z X0 w) : am_Sm p l e R s m args below meth c Q G z X0 (pc, ls, st, M, X) := by
  obtain ⟨hx, hb, hml, hown, hts, hK, hU, hN, hX, hbb, hlk, hst, hini⟩ := C
  simp only [am_st, am_ex] at h
  intro H locs lsc hH hS hl
  obtain ⟨x, st1, rfl, h_1⟩ := am_popJ_i h
  obtain ⟨hj, h_2⟩ := am_if_i h_1
  cases h_2
  exact lv_lstore hx hb dg hl.1 (by rw [← hl.2]; exact hj) rfl (fun lsc' hl' => K H locs lsc' hH hS (am_lv.sub hl' (by show (am_put2 _ _ _).length = _; rw [am_put2, List.length_set, am_put_len]; exact hl.2) (am_put2_sub hj _)))
theorem am_s_ladd  (C : am_Cx p l s m args meth c G z) (dg : decode (am_by z) pc = .ok (.ladd, 1)) {w} (h : am_st call z (.ladd) pc ls st M X = some (.inl w)) (K : am_Sm p l e R s m args below meth c Q G z X0 w) : am_Sm p l e R s m args below meth c Q G z X0 (pc, ls, st, M, X) := by
  obtain ⟨hx, hb, hml, hown, hts, hK, hU, hN, hX, hbb, hlk, hst, hini⟩ := C
  simp only [am_st, am_ex] at h
  intro H locs lsc hH hS hl
  obtain ⟨y, st1, rfl, h_1⟩ := am_popJ_i h
  obtain ⟨x, st2, rfl, h_2⟩ := am_popJ_i h_1
  cases h_2
  exact lv_ladd hx hb dg (K H locs lsc hH hS hl)
theorem am_s_lmul  (C : am_Cx p l s m args meth c G z) (dg : decode (am_by z) pc = .ok (.lmul, 1)) {w} (h : am_st call z (.lmul) pc ls st M X = some (.inl w)) (K : am_Sm p l e R s m args below meth c Q G z X0 w) : am_Sm p l e R s m args below meth c Q G z X0 (pc, ls, st, M, X) := by
  obtain ⟨hx, hb, hml, hown, hts, hK, hU, hN, hX, hbb, hlk, hst, hini⟩ := C
  simp only [am_st, am_ex] at h
  intro H locs lsc hH hS hl
  obtain ⟨y, st1, rfl, h_1⟩ := am_popJ_i h
  obtain ⟨x, st2, rfl, h_2⟩ := am_popJ_i h_1
  cases h_2
  exact lv_lmul hx hb dg (K H locs lsc hH hS hl)
theorem am_s_ixor  (C : am_Cx p l s m args meth c G z) (dg : decode (am_by z) pc = .ok (.ixor, 1)) {w} (h : am_st call z (.ixor) pc ls st M X = some (.inl w)) (K : am_Sm p l e R s m args below meth c Q G z X0 w) : am_Sm p l e R s m args below meth c Q G z X0 (pc, ls, st, M, X) := by
  obtain ⟨hx, hb, hml, hown, hts, hK, hU, hN, hX, hbb, hlk, hst, hini⟩ := C
  simp only [am_st, am_ex] at h
  intro H locs lsc hH hS hl
  obtain ⟨y, st1, rfl, h_1⟩ := am_popI_i h
  obtain ⟨x, st2, rfl, h_2⟩ := am_popI_i h_1
  cases h_2
  exact lv_ixor hx hb dg (K H locs lsc hH hS hl)
theorem am_s_iadd  (C : am_Cx p l s m args meth c G z) (dg : decode (am_by z) pc = .ok (.iadd, 1)) {w} (h : am_st call z (.iadd) pc ls st M X = some (.inl w)) (K : am_Sm p l e R s m args below meth c Q G z X0 w) : am_Sm p l e R s m args below meth c Q G z X0 (pc, ls, st, M, X) := by
  obtain ⟨hx, hb, hml, hown, hts, hK, hU, hN, hX, hbb, hlk, hst, hini⟩ := C
  simp only [am_st, am_ex] at h
  intro H locs lsc hH hS hl
  obtain ⟨y, st1, rfl, h_1⟩ := am_popI_i h
  obtain ⟨x, st2, rfl, h_2⟩ := am_popI_i h_1
  cases h_2
  exact lv_iadd hx hb dg (K H locs lsc hH hS hl)
theorem am_s_isub  (C : am_Cx p l s m args meth c G z) (dg : decode (am_by z) pc = .ok (.isub, 1)) {w} (h : am_st call z (.isub) pc ls st M X = some (.inl w)) (K : am_Sm p l e R s m args below meth c Q G z X0 w) : am_Sm p l e R s m args below meth c Q G z X0 (pc, ls, st, M, X) := by
  obtain ⟨hx, hb, hml, hown, hts, hK, hU, hN, hX, hbb, hlk, hst, hini⟩ := C
  simp only [am_st, am_ex] at h
  intro H locs lsc hH hS hl
  obtain ⟨y, st1, rfl, h_1⟩ := am_popI_i h
  obtain ⟨x, st2, rfl, h_2⟩ := am_popI_i h_1
  cases h_2
  exact lv_isub hx hb dg (K H locs lsc hH hS hl)
theorem am_s_imul  (C : am_Cx p l s m args meth c G z) (dg : decode (am_by z) pc = .ok (.imul, 1)) {w} (h : am_st call z (.imul) pc ls st M X = some (.inl w)) (K : am_Sm p l e R s m args below meth c Q G z X0 w) : am_Sm p l e R s m args below meth c Q G z X0 (pc, ls, st, M, X) := by
  obtain ⟨hx, hb, hml, hown, hts, hK, hU, hN, hX, hbb, hlk, hst, hini⟩ := C
  simp only [am_st, am_ex] at h
  intro H locs lsc hH hS hl
  obtain ⟨y, st1, rfl, h_1⟩ := am_popI_i h
  obtain ⟨x, st2, rfl, h_2⟩ := am_popI_i h_1
  cases h_2
  exact lv_imul hx hb dg (K H locs lsc hH hS hl)
theorem am_s_iand  (C : am_Cx p l s m args meth c G z) (dg : decode (am_by z) pc = .ok (.iand, 1)) {w} (h : am_st call z (.iand) pc ls st M X = some (.inl w)) (K : am_Sm p l e R s m args below meth c Q G z X0 w) : am_Sm p l e R s m args below meth c Q G z X0 (pc, ls, st, M, X) := by
  obtain ⟨hx, hb, hml, hown, hts, hK, hU, hN, hX, hbb, hlk, hst, hini⟩ := C
  simp only [am_st, am_ex] at h
  intro H locs lsc hH hS hl
  obtain ⟨y, st1, rfl, h_1⟩ := am_popI_i h
  obtain ⟨x, st2, rfl, h_2⟩ := am_popI_i h_1
  cases h_2
  exact lv_iand hx hb dg (K H locs lsc hH hS hl)
theorem am_s_ior  (C : am_Cx p l s m args meth c G z) (dg : decode (am_by z) pc = .ok (.ior, 1)) {w} (h : am_st call z (.ior) pc ls st M X = some (.inl w)) (K : am_Sm p l e R s m args below meth c Q G z X0 w) : am_Sm p l e R s m args below meth c Q G z X0 (pc, ls, st, M, X) := by
  obtain ⟨hx, hb, hml, hown, hts, hK, hU, hN, hX, hbb, hlk, hst, hini⟩ := C
  simp only [am_st, am_ex] at h
  intro H locs lsc hH hS hl
  obtain ⟨y, st1, rfl, h_1⟩ := am_popI_i h
  obtain ⟨x, st2, rfl, h_2⟩ := am_popI_i h_1
  cases h_2
  exact lv_ior hx hb dg (K H locs lsc hH hS hl)
theorem am_s_ishl  (C : am_Cx p l s m args meth c G z) (dg : decode (am_by z) pc = .ok (.ishl, 1)) {w} (h : am_st call z (.ishl) pc ls st M X = some (.inl w)) (K : am_Sm p l e R s m args below meth c Q G z X0 w) : am_Sm p l e R s m args below meth c Q G z X0 (pc, ls, st, M, X) := by
  obtain ⟨hx, hb, hml, hown, hts, hK, hU, hN, hX, hbb, hlk, hst, hini⟩ := C
  simp only [am_st, am_ex] at h
  intro H locs lsc hH hS hl
  obtain ⟨y, st1, rfl, h_1⟩ := am_popI_i h
  obtain ⟨x, st2, rfl, h_2⟩ := am_popI_i h_1
  cases h_2
  exact lv_ishl hx hb dg (K H locs lsc hH hS hl)
theorem am_s_ishr  (C : am_Cx p l s m args meth c G z) (dg : decode (am_by z) pc = .ok (.ishr, 1)) {w} (h : am_st call z (.ishr) pc ls st M X = some (.inl w)) (K : am_Sm p l e R s m args below meth c Q G z X0 w) : am_Sm p l e R s m args below meth c Q G z X0 (pc, ls, st, M, X) := by
  obtain ⟨hx, hb, hml, hown, hts, hK, hU, hN, hX, hbb, hlk, hst, hini⟩ := C
  simp only [am_st, am_ex] at h
  intro H locs lsc hH hS hl
  obtain ⟨y, st1, rfl, h_1⟩ := am_popI_i h
  obtain ⟨x, st2, rfl, h_2⟩ := am_popI_i h_1
  cases h_2
  exact lv_ishr hx hb dg (K H locs lsc hH hS hl)
theorem am_s_idiv  (C : am_Cx p l s m args meth c G z) (dg : decode (am_by z) pc = .ok (.idiv, 1)) {w} (h : am_st call z (.idiv) pc ls st M X = some (.inl w)) (K : am_Sm p l e R s m args below meth c Q G z X0 w) : am_Sm p l e R s m args below meth c Q G z X0 (pc, ls, st, M, X) := by
  obtain ⟨hx, hb, hml, hown, hts, hK, hU, hN, hX, hbb, hlk, hst, hini⟩ := C
  simp only [am_st, am_ex] at h
  intro H locs lsc hH hS hl
  obtain ⟨y, st1, rfl, h_1⟩ := am_popI_i h
  obtain ⟨x, st2, rfl, h_2⟩ := am_popI_i h_1
  obtain ⟨hne, h_3⟩ := am_ifn_i h_2
  cases h_3
  exact lv_idiv hx hb dg hne (K H locs lsc hH hS hl)
theorem am_s_irem  (C : am_Cx p l s m args meth c G z) (dg : decode (am_by z) pc = .ok (.irem, 1)) {w} (h : am_st call z (.irem) pc ls st M X = some (.inl w)) (K : am_Sm p l e R s m args below meth c Q G z X0 w) : am_Sm p l e R s m args below meth c Q G z X0 (pc, ls, st, M, X) := by
  obtain ⟨hx, hb, hml, hown, hts, hK, hU, hN, hX, hbb, hlk, hst, hini⟩ := C
  simp only [am_st, am_ex] at h
  intro H locs lsc hH hS hl
  obtain ⟨y, st1, rfl, h_1⟩ := am_popI_i h
  obtain ⟨x, st2, rfl, h_2⟩ := am_popI_i h_1
  obtain ⟨hne, h_3⟩ := am_ifn_i h_2
  cases h_3
  exact lv_irem hx hb dg hne (K H locs lsc hH hS hl)
theorem am_s_i2l  (C : am_Cx p l s m args meth c G z) (dg : decode (am_by z) pc = .ok (.i2l, 1)) {w} (h : am_st call z (.i2l) pc ls st M X = some (.inl w)) (K : am_Sm p l e R s m args below meth c Q G z X0 w) : am_Sm p l e R s m args below meth c Q G z X0 (pc, ls, st, M, X) := by
  obtain ⟨hx, hb, hml, hown, hts, hK, hU, hN, hX, hbb, hlk, hst, hini⟩ := C
  simp only [am_st, am_ex] at h
  intro H locs lsc hH hS hl
  obtain ⟨x, st1, rfl, h_1⟩ := am_popI_i h
  cases h_1
  exact lv_i2l hx hb dg rfl (K H locs lsc hH hS hl)
theorem am_s_i2c  (C : am_Cx p l s m args meth c G z) (dg : decode (am_by z) pc = .ok (.i2c, 1)) {w} (h : am_st call z (.i2c) pc ls st M X = some (.inl w)) (K : am_Sm p l e R s m args below meth c Q G z X0 w) : am_Sm p l e R s m args below meth c Q G z X0 (pc, ls, st, M, X) := by
  obtain ⟨hx, hb, hml, hown, hts, hK, hU, hN, hX, hbb, hlk, hst, hini⟩ := C
  simp only [am_st, am_ex] at h
  intro H locs lsc hH hS hl
  obtain ⟨x, st1, rfl, h_1⟩ := am_popI_i h
  cases h_1
  exact lv_i2c hx hb dg rfl (K H locs lsc hH hS hl)
theorem am_s_i2f  (C : am_Cx p l s m args meth c G z) (dg : decode (am_by z) pc = .ok (.i2f, 1)) {w} (h : am_st call z (.i2f) pc ls st M X = some (.inl w)) (K : am_Sm p l e R s m args below meth c Q G z X0 w) : am_Sm p l e R s m args below meth c Q G z X0 (pc, ls, st, M, X) := by
  obtain ⟨hx, hb, hml, hown, hts, hK, hU, hN, hX, hbb, hlk, hst, hini⟩ := C
  simp only [am_st, am_ex] at h
  intro H locs lsc hH hS hl
  obtain ⟨x, st1, rfl, h_1⟩ := am_popI_i h
  cases h_1
  exact lv_i2f hx hb dg (K H locs lsc hH hS hl)
theorem am_s_i2d  (C : am_Cx p l s m args meth c G z) (dg : decode (am_by z) pc = .ok (.i2d, 1)) {w} (h : am_st call z (.i2d) pc ls st M X = some (.inl w)) (K : am_Sm p l e R s m args below meth c Q G z X0 w) : am_Sm p l e R s m args below meth c Q G z X0 (pc, ls, st, M, X) := by
  obtain ⟨hx, hb, hml, hown, hts, hK, hU, hN, hX, hbb, hlk, hst, hini⟩ := C
  simp only [am_st, am_ex] at h
  intro H locs lsc hH hS hl
  obtain ⟨x, st1, rfl, h_1⟩ := am_popI_i h
  cases h_1
  exact lv_i2d hx hb dg (K H locs lsc hH hS hl)
theorem am_s_f2d  (C : am_Cx p l s m args meth c G z) (dg : decode (am_by z) pc = .ok (.f2d, 1)) {w} (h : am_st call z (.f2d) pc ls st M X = some (.inl w)) (K : am_Sm p l e R s m args below meth c Q G z X0 w) : am_Sm p l e R s m args below meth c Q G z X0 (pc, ls, st, M, X) := by
  obtain ⟨hx, hb, hml, hown, hts, hK, hU, hN, hX, hbb, hlk, hst, hini⟩ := C
  simp only [am_st, am_ex] at h
  intro H locs lsc hH hS hl
  obtain ⟨x, st1, rfl, h_1⟩ := am_popF_i h
  obtain ⟨hne, h_2⟩ := am_if_i h_1
  cases h_2
  exact lv_f2d hx hb dg hne (K H locs lsc hH hS hl)
theorem am_s_fdiv  (C : am_Cx p l s m args meth c G z) (dg : decode (am_by z) pc = .ok (.fdiv, 1)) {w} (h : am_st call z (.fdiv) pc ls st M X = some (.inl w)) (K : am_Sm p l e R s m args below meth c Q G z X0 w) : am_Sm p l e R s m args below meth c Q G z X0 (pc, ls, st, M, X) := by
  obtain ⟨hx, hb, hml, hown, hts, hK, hU, hN, hX, hbb, hlk, hst, hini⟩ := C
  simp only [am_st, am_ex] at h
  intro H locs lsc hH hS hl
  obtain ⟨y, st1, rfl, h_1⟩ := am_popF_i h
  obtain ⟨x, st2, rfl, h_2⟩ := am_popF_i h_1
  obtain ⟨hne, h_3⟩ := am_if_i h_2
  cases h_3
  exact lv_fdiv hx hb dg hne (K H locs lsc hH hS hl)
theorem am_s_ddiv  (C : am_Cx p l s m args meth c G z) (dg : decode (am_by z) pc = .ok (.ddiv, 1)) {w} (h : am_st call z (.ddiv) pc ls st M X = some (.inl w)) (K : am_Sm p l e R s m args below meth c Q G z X0 w) : am_Sm p l e R s m args below meth c Q G z X0 (pc, ls, st, M, X) := by
  obtain ⟨hx, hb, hml, hown, hts, hK, hU, hN, hX, hbb, hlk, hst, hini⟩ := C
  simp only [am_st, am_ex] at h
  intro H locs lsc hH hS hl
  obtain ⟨y, st1, rfl, h_1⟩ := am_popD_i h
  obtain ⟨x, st2, rfl, h_2⟩ := am_popD_i h_1
  obtain ⟨hne, h_3⟩ := am_if_i h_2
  cases h_3
  exact lv_ddiv hx hb dg hne (K H locs lsc hH hS hl)
theorem am_s_lcmp  (C : am_Cx p l s m args meth c G z) (dg : decode (am_by z) pc = .ok (.lcmp, 1)) {w} (h : am_st call z (.lcmp) pc ls st M X = some (.inl w)) (K : am_Sm p l e R s m args below meth c Q G z X0 w) : am_Sm p l e R s m args below meth c Q G z X0 (pc, ls, st, M, X) := by
  obtain ⟨hx, hb, hml, hown, hts, hK, hU, hN, hX, hbb, hlk, hst, hini⟩ := C
  simp only [am_st, am_ex] at h
  intro H locs lsc hH hS hl
  obtain ⟨y, st1, rfl, h_1⟩ := am_popJ_i h
  obtain ⟨x, st2, rfl, h_2⟩ := am_popJ_i h_1
  cases h_2
  exact W.lcmp hx hb dg (K H locs lsc hH hS hl)
theorem am_s_fcmp {op : CmpOp} (C : am_Cx p l s m args meth c G z) (dg : decode (am_by z) pc = .ok (.fcmp op, 1)) {w} (h : am_st call z (.fcmp op) pc ls st M X = some (.inl w)) (K : am_Sm p l e R s m args below meth c Q G z X0 w) : am_Sm p l e R s m args below meth c Q G z X0 (pc, ls, st, M, X) := by
  obtain ⟨hx, hb, hml, hown, hts, hK, hU, hN, hX, hbb, hlk, hst, hini⟩ := C
  simp only [am_st, am_ex] at h
  intro H locs lsc hH hS hl
  obtain ⟨y, st1, rfl, h_1⟩ := am_popF_i h
  obtain ⟨x, st2, rfl, h_2⟩ := am_popF_i h_1
  cases h_2
  exact lv_fcmp hx hb dg (K H locs lsc hH hS hl)
theorem am_s_dcmp {op : CmpOp} (C : am_Cx p l s m args meth c G z) (dg : decode (am_by z) pc = .ok (.dcmp op, 1)) {w} (h : am_st call z (.dcmp op) pc ls st M X = some (.inl w)) (K : am_Sm p l e R s m args below meth c Q G z X0 w) : am_Sm p l e R s m args below meth c Q G z X0 (pc, ls, st, M, X) := by
  obtain ⟨hx, hb, hml, hown, hts, hK, hU, hN, hX, hbb, hlk, hst, hini⟩ := C
  simp only [am_st, am_ex] at h
  intro H locs lsc hH hS hl
  obtain ⟨y, st1, rfl, h_1⟩ := am_popD_i h
  obtain ⟨x, st2, rfl, h_2⟩ := am_popD_i h_1
  cases h_2
  exact lv_dcmp hx hb dg (K H locs lsc hH hS hl)
theorem am_s_dup  (C : am_Cx p l s m args meth c G z) (dg : decode (am_by z) pc = .ok (.dup, 1)) {w} (h : am_st call z (.dup) pc ls st M X = some (.inl w)) (K : am_Sm p l e R s m args below meth c Q G z X0 w) : am_Sm p l e R s m args below meth c Q G z X0 (pc, ls, st, M, X) := by
  obtain ⟨hx, hb, hml, hown, hts, hK, hU, hN, hX, hbb, hlk, hst, hini⟩ := C
  simp only [am_st, am_ex] at h
  intro H locs lsc hH hS hl
  obtain ⟨v, st1, rfl, c1, h_1⟩ := am_pop1_i h
  cases h_1
  exact lv_dup hx hb dg c1.cat (K H locs lsc hH hS hl)
theorem am_s_pop  (C : am_Cx p l s m args meth c G z) (dg : decode (am_by z) pc = .ok (.pop, 1)) {w} (h : am_st call z (.pop) pc ls st M X = some (.inl w)) (K : am_Sm p l e R s m args below meth c Q G z X0 w) : am_Sm p l e R s m args below meth c Q G z X0 (pc, ls, st, M, X) := by
  obtain ⟨hx, hb, hml, hown, hts, hK, hU, hN, hX, hbb, hlk, hst, hini⟩ := C
  simp only [am_st, am_ex] at h
  intro H locs lsc hH hS hl
  obtain ⟨v, st1, rfl, c1, h_1⟩ := am_pop1_i h
  cases h_1
  exact lv_pop hx hb dg c1.cat (K H locs lsc hH hS hl)
theorem am_s_dup2  (C : am_Cx p l s m args meth c G z) (dg : decode (am_by z) pc = .ok (.dup2, 1)) {w} (h : am_st call z (.dup2) pc ls st M X = some (.inl w)) (K : am_Sm p l e R s m args below meth c Q G z X0 w) : am_Sm p l e R s m args below meth c Q G z X0 (pc, ls, st, M, X) := by
  obtain ⟨hx, hb, hml, hown, hts, hK, hU, hN, hX, hbb, hlk, hst, hini⟩ := C
  simp only [am_st, am_ex] at h
  intro H locs lsc hH hS hl
  obtain ⟨v, st1, rfl, c1, h_1⟩ := am_pop1_i h
  obtain ⟨w, st2, rfl, c2, h_2⟩ := am_pop1_i h_1
  cases h_2
  exact lv_dup2_11 hx hb dg c1.cat c2.cat (K H locs lsc hH hS hl)
theorem am_s_dup_x1  (C : am_Cx p l s m args meth c G z) (dg : decode (am_by z) pc = .ok (.dup_x1, 1)) {w} (h : am_st call z (.dup_x1) pc ls st M X = some (.inl w)) (K : am_Sm p l e R s m args below meth c Q G z X0 w) : am_Sm p l e R s m args below meth c Q G z X0 (pc, ls, st, M, X) := by
  obtain ⟨hx, hb, hml, hown, hts, hK, hU, hN, hX, hbb, hlk, hst, hini⟩ := C
  simp only [am_st, am_ex] at h
  intro H locs lsc hH hS hl
  obtain ⟨v, st1, rfl, c1, h_1⟩ := am_pop1_i h
  obtain ⟨w, st2, rfl, c2, h_2⟩ := am_pop1_i h_1
  cases h_2
  exact lv_dup_x1 hx hb dg c1.cat c2.cat (K H locs lsc hH hS hl)
theorem am_s_dup_x2  (C : am_Cx p l s m args meth c G z) (dg : decode (am_by z) pc = .ok (.dup_x2, 1)) {w} (h : am_st call z (.dup_x2) pc ls st M X = some (.inl w)) (K : am_Sm p l e R s m args below meth c Q G z X0 w) : am_Sm p l e R s m args below meth c Q G z X0 (pc, ls, st, M, X) := by
  obtain ⟨hx, hb, hml, hown, hts, hK, hU, hN, hX, hbb, hlk, hst, hini⟩ := C
  simp only [am_st, am_ex] at h
  intro H locs lsc hH hS hl
  obtain ⟨v, st1, rfl, c1, h_1⟩ := am_pop1_i h
  obtain ⟨w, st2, rfl, c2, h_2⟩ := am_pop1_i h_1
  obtain ⟨u, st3, rfl, c3, h_3⟩ := am_pop1_i h_2
  cases h_3
  exact lv_dup_x2 hx hb dg c1.cat c2.cat c3.cat (K H locs lsc hH hS hl)
theorem am_s_goto {k : Int} (C : am_Cx p l s m args meth c G z) (dg : decode (am_by z) pc = .ok (.goto k, 3)) {w} (h : am_st call z (.goto k) pc ls st M X = some (.inl w)) (K : am_Sm p l e R s m args below meth c Q G z X0 w) : am_Sm p l e R s m args below meth c Q G z X0 (pc, ls, st, M, X) := by
  obtain ⟨hx, hb, hml, hown, hts, hK, hU, hN, hX, hbb, hlk, hst, hini⟩ := C
  simp only [am_st, am_ex] at h
  intro H locs lsc hH hS hl
  obtain ⟨t, ht, h_1⟩ := am_j_i h
  cases h_1
  exact lv_goto hx hb dg ht (K H locs lsc hH hS hl)
theorem am_s_if_eq {k : Int} (C : am_Cx p l s m args meth c G z) (dg : decode (am_by z) pc = .ok (.ifCond .eq k, 3)) {w} (h : am_st call z (.ifCond .eq k) pc ls st M X = some (.inl w)) (K : am_Sm p l e R s m args below meth c Q G z X0 w) : am_Sm p l e R s m args below meth c Q G z X0 (pc, ls, st, M, X) := by
  obtain ⟨hx, hb, hml, hown, hts, hK, hU, hN, hX, hbb, hlk, hst, hini⟩ := C
  simp only [am_st, am_ex] at h
  intro H locs lsc hH hS hl
  obtain ⟨x, st1, rfl, h_1⟩ := am_popI_i h
  obtain ⟨t, ht, h_2⟩ := am_j_i h_1
  split at h_2
  · rename_i hc; cases h_2
    exact lv_if_eq hx hb dg ht (fun _ => (K H locs lsc hH hS hl)) (fun n => by first | exact absurd hc n | exact absurd n hc | exact absurd hc n | exact absurd n hc)
  · rename_i hc; cases h_2
    exact lv_if_eq hx hb dg ht (fun n => by first | exact absurd hc n | exact absurd n hc | exact absurd hc n | exact absurd n hc) (fun _ => (K H locs lsc hH hS hl))
theorem am_s_if_ne {k : Int} (C : am_Cx p l s m args meth c G z) (dg : decode (am_by z) pc = .ok (.ifCond .ne k, 3)) {w} (h : am_st call z (.ifCond .ne k) pc ls st M X = some (.inl w)) (K : am_Sm p l e R s m args below meth c Q G z X0 w) : am_Sm p l e R s m args below meth c Q G z X0 (pc, ls, st, M, X) := by
  obtain ⟨hx, hb, hml, hown, hts, hK, hU, hN, hX, hbb, hlk, hst, hini⟩ := C
  simp only [am_st, am_ex] at h
  intro H locs lsc hH hS hl
  obtain ⟨x, st1, rfl, h_1⟩ := am_popI_i h
  obtain ⟨t, ht, h_2⟩ := am_j_i h_1
  split at h_2
  · rename_i hc; cases h_2
    exact lv_if_ne hx hb dg ht (fun n => by first | exact absurd hc n | exact absurd n hc | exact absurd hc n | exact absurd n hc) (fun _ => (K H locs lsc hH hS hl))
  · rename_i hc; cases h_2
    exact lv_if_ne hx hb dg ht (fun _ => (K H locs lsc hH hS hl)) (fun n => by first | exact absurd hc n | exact absurd n hc | exact absurd hc n | exact absurd n hc)
theorem am_s_if_lt {k : Int} (C : am_Cx p l s m args meth c G z) (dg : decode (am_by z) pc = .ok (.ifCond .lt k, 3)) {w} (h : am_st call z (.ifCond .lt k) pc ls st M X = some (.inl w)) (K : am_Sm p l e R s m args below meth c Q G z X0 w) : am_Sm p l e R s m args below meth c Q G z X0 (pc, ls, st, M, X) := by
  obtain ⟨hx, hb, hml, hown, hts, hK, hU, hN, hX, hbb, hlk, hst, hini⟩ := C
  simp only [am_st, am_ex] at h
  intro H locs lsc hH hS hl
  obtain ⟨x, st1, rfl, h_1⟩ := am_popI_i h
  obtain ⟨t, ht, h_2⟩ := am_j_i h_1
  split at h_2
  · rename_i hc; cases h_2
    exact lv_if_lt hx hb dg ht (fun _ => (K H locs lsc hH hS hl)) (fun n => by first | exact absurd hc n | exact absurd n hc | exact absurd hc n | exact absurd n hc)
  · rename_i hc; cases h_2
    exact lv_if_lt hx hb dg ht (fun n => by first | exact absurd hc n | exact absurd n hc | exact absurd hc n | exact absurd n hc) (fun _ => (K H locs lsc hH hS hl))
theorem am_s_if_ge {k : Int} (C : am_Cx p l s m args meth c G z) (dg : decode (am_by z) pc = .ok (.ifCond .ge k, 3)) {w} (h : am_st call z (.ifCond .ge k) pc ls st M X = some (.inl w)) (K : am_Sm p l e R s m args below meth c Q G z X0 w) : am_Sm p l e R s m args below meth c Q G z X0 (pc, ls, st, M, X) := by
  obtain ⟨hx, hb, hml, hown, hts, hK, hU, hN, hX, hbb, hlk, hst, hini⟩ := C
  simp only [am_st, am_ex] at h
  intro H locs lsc hH hS hl
  obtain ⟨x, st1, rfl, h_1⟩ := am_popI_i h
  obtain ⟨t, ht, h_2⟩ := am_j_i h_1
  split at h_2
  · rename_i hc; cases h_2
    exact lv_if_ge hx hb dg ht (fun n => by first | exact absurd hc n | exact absurd n hc | exact absurd (Int32.not_le.mpr hc) n | exact absurd n (Int32.not_le.mpr hc)) (fun _ => (K H locs lsc hH hS hl))
  · rename_i hc; cases h_2
    exact lv_if_ge hx hb dg ht (fun _ => (K H locs lsc hH hS hl)) (fun n => by first | exact absurd hc n | exact absurd n hc | exact absurd (Int32.not_lt.mp hc) n | exact absurd n (Int32.not_lt.mp hc))
theorem am_s_if_gt {k : Int} (C : am_Cx p l s m args meth c G z) (dg : decode (am_by z) pc = .ok (.ifCond .gt k, 3)) {w} (h : am_st call z (.ifCond .gt k) pc ls st M X = some (.inl w)) (K : am_Sm p l e R s m args below meth c Q G z X0 w) : am_Sm p l e R s m args below meth c Q G z X0 (pc, ls, st, M, X) := by
  obtain ⟨hx, hb, hml, hown, hts, hK, hU, hN, hX, hbb, hlk, hst, hini⟩ := C
  simp only [am_st, am_ex] at h
  intro H locs lsc hH hS hl
  obtain ⟨x, st1, rfl, h_1⟩ := am_popI_i h
  obtain ⟨t, ht, h_2⟩ := am_j_i h_1
  split at h_2
  · rename_i hc; cases h_2
    exact lv_if_gt hx hb dg ht (fun _ => (K H locs lsc hH hS hl)) (fun n => by first | exact absurd hc n | exact absurd n hc | exact absurd hc n | exact absurd n hc)
  · rename_i hc; cases h_2
    exact lv_if_gt hx hb dg ht (fun n => by first | exact absurd hc n | exact absurd n hc | exact absurd hc n | exact absurd n hc) (fun _ => (K H locs lsc hH hS hl))
theorem am_s_if_le {k : Int} (C : am_Cx p l s m args meth c G z) (dg : decode (am_by z) pc = .ok (.ifCond .le k, 3)) {w} (h : am_st call z (.ifCond .le k) pc ls st M X = some (.inl w)) (K : am_Sm p l e R s m args below meth c Q G z X0 w) : am_Sm p l e R s m args below meth c Q G z X0 (pc, ls, st, M, X) := by
  obtain ⟨hx, hb, hml, hown, hts, hK, hU, hN, hX, hbb, hlk, hst, hini⟩ := C
  simp only [am_st, am_ex] at h
  intro H locs lsc hH hS hl
  obtain ⟨x, st1, rfl, h_1⟩ := am_popI_i h
  obtain ⟨t, ht, h_2⟩ := am_j_i h_1
  split at h_2
  · rename_i hc; cases h_2
    exact lv_if_le hx hb dg ht (fun n => by first | exact absurd hc n | exact absurd n hc | exact absurd (Int32.not_le.mpr hc) n | exact absurd n (Int32.not_le.mpr hc)) (fun _ => (K H locs lsc hH hS hl))
  · rename_i hc; cases h_2
    exact lv_if_le hx hb dg ht (fun _ => (K H locs lsc hH hS hl)) (fun n => by first | exact absurd hc n | exact absurd n hc | exact absurd (Int32.not_lt.mp hc) n | exact absurd n (Int32.not_lt.mp hc))
theorem am_s_ic_eq {k : Int} (C : am_Cx p l s m args meth c G z) (dg : decode (am_by z) pc = .ok (.if_icmp .eq k, 3)) {w} (h : am_st call z (.if_icmp .eq k) pc ls st M X = some (.inl w)) (K : am_Sm p l e R s m args below meth c Q G z X0 w) : am_Sm p l e R s m args below meth c Q G z X0 (pc, ls, st, M, X) := by
  obtain ⟨hx, hb, hml, hown, hts, hK, hU, hN, hX, hbb, hlk, hst, hini⟩ := C
  simp only [am_st, am_ex] at h
  intro H locs lsc hH hS hl
  obtain ⟨y, st1, rfl, h_1⟩ := am_popI_i h
  obtain ⟨x, st2, rfl, h_2⟩ := am_popI_i h_1
  obtain ⟨t, ht, h_3⟩ := am_j_i h_2
  split at h_3
  · rename_i hc; cases h_3
    exact lv_icmp_eq hx hb dg ht (fun _ => (K H locs lsc hH hS hl)) (fun n => by first | exact absurd hc n | exact absurd n hc | exact absurd hc n | exact absurd n hc)
  · rename_i hc; cases h_3
    exact lv_icmp_eq hx hb dg ht (fun n => by first | exact absurd hc n | exact absurd n hc | exact absurd hc n | exact absurd n hc) (fun _ => (K H locs lsc hH hS hl))
theorem am_s_ic_ne {k : Int} (C : am_Cx p l s m args meth c G z) (dg : decode (am_by z) pc = .ok (.if_icmp .ne k, 3)) {w} (h : am_st call z (.if_icmp .ne k) pc ls st M X = some (.inl w)) (K : am_Sm p l e R s m args below meth c Q G z X0 w) : am_Sm p l e R s m args below meth c Q G z X0 (pc, ls, st, M, X) := by
  obtain ⟨hx, hb, hml, hown, hts, hK, hU, hN, hX, hbb, hlk, hst, hini⟩ := C
  simp only [am_st, am_ex] at h
  intro H locs lsc hH hS hl
  obtain ⟨y, st1, rfl, h_1⟩ := am_popI_i h
  obtain ⟨x, st2, rfl, h_2⟩ := am_popI_i h_1
  obtain ⟨t, ht, h_3⟩ := am_j_i h_2
  split at h_3
  · rename_i hc; cases h_3
    exact lv_icmp_ne hx hb dg ht (fun n => by first | exact absurd hc n | exact absurd n hc | exact absurd hc n | exact absurd n hc) (fun _ => (K H locs lsc hH hS hl))
  · rename_i hc; cases h_3
    exact lv_icmp_ne hx hb dg ht (fun _ => (K H locs lsc hH hS hl)) (fun n => by first | exact absurd hc n | exact absurd n hc | exact absurd hc n | exact absurd n hc)
theorem am_s_ic_lt {k : Int} (C : am_Cx p l s m args meth c G z) (dg : decode (am_by z) pc = .ok (.if_icmp .lt k, 3)) {w} (h : am_st call z (.if_icmp .lt k) pc ls st M X = some (.inl w)) (K : am_Sm p l e R s m args below meth c Q G z X0 w) : am_Sm p l e R s m args below meth c Q G z X0 (pc, ls, st, M, X) := by
  obtain ⟨hx, hb, hml, hown, hts, hK, hU, hN, hX, hbb, hlk, hst, hini⟩ := C
  simp only [am_st, am_ex] at h
  intro H locs lsc hH hS hl
  obtain ⟨y, st1, rfl, h_1⟩ := am_popI_i h
  obtain ⟨x, st2, rfl, h_2⟩ := am_popI_i h_1
  obtain ⟨t, ht, h_3⟩ := am_j_i h_2
  split at h_3
  · rename_i hc; cases h_3
    exact lv_icmp_lt hx hb dg ht (fun _ => (K H locs lsc hH hS hl)) (fun n => by first | exact absurd hc n | exact absurd n hc | exact absurd hc n | exact absurd n hc)
  · rename_i hc; cases h_3
    exact lv_icmp_lt hx hb dg ht (fun n => by first | exact absurd hc n | exact absurd n hc | exact absurd hc n | exact absurd n hc) (fun _ => (K H locs lsc hH hS hl))
theorem am_s_ic_ge {k : Int} (C : am_Cx p l s m args meth c G z) (dg : decode (am_by z) pc = .ok (.if_icmp .ge k, 3)) {w} (h : am_st call z (.if_icmp .ge k) pc ls st M X = some (.inl w)) (K : am_Sm p l e R s m args below meth c Q G z X0 w) : am_Sm p l e R s m args below meth c Q G z X0 (pc, ls, st, M, X) := by
  obtain ⟨hx, hb, hml, hown, hts, hK, hU, hN, hX, hbb, hlk, hst, hini⟩ := C
  simp only [am_st, am_ex] at h
  intro H locs lsc hH hS hl
  obtain ⟨y, st1, rfl, h_1⟩ := am_popI_i h
  obtain ⟨x, st2, rfl, h_2⟩ := am_popI_i h_1
  obtain ⟨t, ht, h_3⟩ := am_j_i h_2
  split at h_3
  · rename_i hc; cases h_3
    exact lv_icmp_ge hx hb dg ht (fun n => by first | exact absurd hc n | exact absurd n hc | exact absurd (Int32.not_le.mpr hc) n | exact absurd n (Int32.not_le.mpr hc)) (fun _ => (K H locs lsc hH hS hl))
  · rename_i hc; cases h_3
    exact lv_icmp_ge hx hb dg ht (fun _ => (K H locs lsc hH hS hl)) (fun n => by first | exact absurd hc n | exact absurd n hc | exact absurd (Int32.not_lt.mp hc) n | exact absurd n (Int32.not_lt.mp hc))
theorem am_s_ic_gt {k : Int} (C : am_Cx p l s m args meth c G z) (dg : decode (am_by z) pc = .ok (.if_icmp .gt k, 3)) {w} (h : am_st call z (.if_icmp .gt k) pc ls st M X = some (.inl w)) (K : am_Sm p l e R s m args below meth c Q G z X0 w) : am_Sm p l e R s m args below meth c Q G z X0 (pc, ls, st, M, X) := by
  obtain ⟨hx, hb, hml, hown, hts, hK, hU, hN, hX, hbb, hlk, hst, hini⟩ := C
  simp only [am_st, am_ex] at h
  intro H locs lsc hH hS hl
  obtain ⟨y, st1, rfl, h_1⟩ := am_popI_i h
  obtain ⟨x, st2, rfl, h_2⟩ := am_popI_i h_1
  obtain ⟨t, ht, h_3⟩ := am_j_i h_2
  split at h_3
  · rename_i hc; cases h_3
    exact lv_icmp_gt hx hb dg ht (fun _ => (K H locs lsc hH hS hl)) (fun n => by first | exact absurd hc n | exact absurd n hc | exact absurd hc n | exact absurd n hc)
  · rename_i hc; cases h_3
    exact lv_icmp_gt hx hb dg ht (fun n => by first | exact absurd hc n | exact absurd n hc | exact absurd hc n | exact absurd n hc) (fun _ => (K H locs lsc hH hS hl))
theorem am_s_ic_le {k : Int} (C : am_Cx p l s m args meth c G z) (dg : decode (am_by z) pc = .ok (.if_icmp .le k, 3)) {w} (h : am_st call z (.if_icmp .le k) pc ls st M X = some (.inl w)) (K : am_Sm p l e R s m args below meth c Q G z X0 w) : am_Sm p l e R s m args below meth c Q G z X0 (pc, ls, st, M, X) := by
  obtain ⟨hx, hb, hml, hown, hts, hK, hU, hN, hX, hbb, hlk, hst, hini⟩ := C
  simp only [am_st, am_ex] at h
  intro H locs lsc hH hS hl
  obtain ⟨y, st1, rfl, h_1⟩ := am_popI_i h
  obtain ⟨x, st2, rfl, h_2⟩ := am_popI_i h_1
  obtain ⟨t, ht, h_3⟩ := am_j_i h_2
  split at h_3
  · rename_i hc; cases h_3
    exact lv_icmp_le hx hb dg ht (fun n => by first | exact absurd hc n | exact absurd n hc | exact absurd (Int32.not_le.mpr hc) n | exact absurd n (Int32.not_le.mpr hc)) (fun _ => (K H locs lsc hH hS hl))
  · rename_i hc; cases h_3
    exact lv_icmp_le hx hb dg ht (fun _ => (K H locs lsc hH hS hl)) (fun n => by first | exact absurd hc n | exact absurd n hc | exact absurd (Int32.not_lt.mp hc) n | exact absurd n (Int32.not_lt.mp hc))
theorem am_s_ts {d lo hi : Int} {os : Array Int} {n : Nat} (C : am_Cx p l s m args meth c G z) (dg : decode (am_by z) pc = .ok (.tableswitch d lo hi os, n)) {w} (h : am_st call z (.tableswitch d lo hi os) pc ls st M X = some (.inl w)) (K : am_Sm p l e R s m args below meth c Q G z X0 w) : am_Sm p l e R s m args below meth c Q G z X0 (pc, ls, st, M, X) := by
  obtain ⟨hx, hb, hml, hown, hts, hK, hU, hN, hX, hbb, hlk, hst, hini⟩ := C
  simp only [am_st, am_ex] at h
  intro H locs lsc hH hS hl
  obtain ⟨x, st1, rfl, h_1⟩ := am_popI_i h
  split at h_1
  · rename_i hc
    obtain ⟨t, ht, h2⟩ := am_j_i h_1
    cases h2
    exact lv_tableOut hx hb dg hc ht (K H locs lsc hH hS hl)
  · rename_i hc
    split at h_1
    · rename_i o ho
      obtain ⟨t, ht, h2⟩ := am_j_i h_1
      cases h2
      exact lv_tableIn hx hb dg (fun q => hc (Or.inl q)) (fun q => hc (Or.inr q)) ho ht (K H locs lsc hH hS hl)
    · cases h_1
theorem am_s_lk {d : Int} {ps : Array (Int × Int)} {n : Nat} (C : am_Cx p l s m args meth c G z) (dg : decode (am_by z) pc = .ok (.lookupswitch d ps, n)) {w} (h : am_st call z (.lookupswitch d ps) pc ls st M X = some (.inl w)) (K : am_Sm p l e R s m args below meth c Q G z X0 w) : am_Sm p l e R s m args below meth c Q G z X0 (pc, ls, st, M, X) := by
  obtain ⟨hx, hb, hml, hown, hts, hK, hU, hN, hX, hbb, hlk, hst, hini⟩ := C
  simp only [am_st, am_ex] at h
  intro H locs lsc hH hS hl
  obtain ⟨x, st1, rfl, h_1⟩ := am_popI_i h
  obtain ⟨hs, h_2⟩ := am_if_i h_1
  obtain ⟨t, ht, h_3⟩ := am_j_i h_2
  cases h_3
  exact lv_lookup hx hb dg hs rfl ht (K H locs lsc hH hS hl)
theorem am_s_getfield {ix : Nat} (C : am_Cx p l s m args meth c G z) (dg : decode (am_by z) pc = .ok (.getfield ix, 3)) {w} (h : am_st call z (.getfield ix) pc ls st M X = some (.inl w)) (K : am_Sm p l e R s m args below meth c Q G z X0 w) : am_Sm p l e R s m args below meth c Q G z X0 (pc, ls, st, M, X) := by
  obtain ⟨hx, hb, hml, hown, hts, hK, hU, hN, hX, hbb, hlk, hst, hini⟩ := C
  simp only [am_st, am_ex] at h
  intro H locs lsc hH hS hl
  split at h
  · cases h
  rename_i ci j hf
  obtain ⟨l0, st1, rfl, h_1⟩ := am_popP_i h
  obtain ⟨hal, hkd, h_2⟩ := am_chk_i h_1
  obtain ⟨hw, hj, hci, hdc⟩ := am_fl_w hf
  have hl0 := am_kd_ne hkd (by decide)
  have hc0 := hH.1 l0 hal hl0
  unfold am_cell at hc0
  simp only [hkd] at hc0
  have hv : W p l e R s m args below meth c H locs (X.2.2.1 - X0.2.2.1) (X.2.2.2.1 - X0.2.2.2.1) Q (F0 m (pc + 3) lsc (am_fv G ci M X.1 l0 j :: st1.map (am_tv G))) := by
    unfold am_fv
    split at h_2
    · rename_i hk; cases h_2; rw [if_pos hk]; exact K H locs lsc hH hS hl
    · rename_i hk; cases h_2; rw [if_neg hk]; exact K H locs lsc hH hS hl
  show W p l e R s m args below meth c H locs _ _ Q (F0 m pc lsc (am_rv G (some l0) :: st1.map (am_tv G)))
  rw [am_rv_ref hl0]
  obtain ⟨cell, q1, q2, q3, q4⟩ := hc0
  obtain ⟨hS2, hfc, kC, hkC, hkind⟩ := hK.1 ci _ (am_cl_at ci hci)
  obtain ⟨cf, kf, fi, f, hi, hsl⟩ := hS2 j hj
  exact W.getf hx hb hown (hts _ hw) (by rw [← hdc]; exact hi) (u_facts hfc hkC (u_lays hts (am_cl_in ci hci) hj) hi).1 q1 (by rw [q3]; exact fun h_2 => by cases h_2) (v := am_fv G ci M X.1 l0 j) (by rw [hsl]; exact q4 j hj) rfl rfl dg hv
end AmSound
end
section
/-! READS AND WRITES OF THE HEAP ARE KEPT -/
theorem am_ref_ty : ∀ ci, ci < 10 → ∀ j, j < am_cN ci → am_fk ci j = 3 → (am_cY ci j).isReference = true := by decide +kernel
theorem am_def_ty : ∀ ci, ci < 10 → ∀ j, j < am_cN ci → defaultValue (am_cY ci j) = if am_fk ci j = 3 then .null else .int 0 := by decide +kernel
theorem am_ref_fits {ty : FieldType} {a : Nat} (h : ty.isReference = true) : narrow ty (.ref a) = .ref a ∧ fits ty (.ref a) = true := by
  cases ty <;> first | exact ⟨rfl, rfl⟩ | (exact absurd h (by decide))
theorem am_set_ne {M : am_M} {l l' : am_L} {j : Nat} {x : Int32} (h : l' ≠ l) : am_set M l j x l' = M l' := by
  funext k; unfold am_set; rw [if_neg (fun q => h q.1)]
theorem am_set_self {M : am_M} {l : am_L} {j : Nat} {x : Int32} : am_set M l j x l = upd (M l) j x := by
  funext k; unfold am_set upd; simp
theorem am_setT_ne {M : am_T} {l l' : am_L} {j : Nat} {x : Option am_L} (h : l' ≠ l) : am_setT M l j x l' = M l' := by
  funext k; unfold am_setT; rw [if_neg (fun q => h q.1)]
theorem am_kd_arr {l : am_L} {k a b : Nat} (h : am_kd l = (k, a, b)) : a ≤ 4000 ∧ b ≤ 4000 := by
  obtain ⟨t, n, q⟩ := l
  simp only [am_kd] at h
  split at h <;> simp only [Prod.mk.injEq] at h <;> omega
theorem am_kd_3 {G : am_Γ} {l : am_L} {ci n : Nat} (h : am_kd l = (3, ci, n)) : (∃ k : Nat, (am_tys G)[k]? = some (G.2.2.2.1 (10 + ci), FieldType.object (am_cR ci))) ∧ ci ∈ [0, 2, 4, 5, 7] := by
  obtain ⟨t, m, q⟩ := l
  simp only [am_kd] at h
  split at h <;> simp only [Prod.mk.injEq] at h <;> first
    | (exact absurd h.1 (by decide))
    | (obtain ⟨-, rfl, -⟩ := h; first | exact ⟨⟨4, rfl⟩, by decide⟩ | exact ⟨⟨5, rfl⟩, by decide⟩ | exact ⟨⟨6, rfl⟩, by decide⟩ | exact ⟨⟨7, rfl⟩, by decide⟩ | exact ⟨⟨8, rfl⟩, by decide⟩)
theorem am_ao_w {ci : Nat} (h : ci ∈ [0, 2, 4, 5, 7]) : Cond.arrayOver (.object (am_cR ci)) ∈ am_W := by
  obtain ⟨i, hi⟩ := am_al2_in am_ao_ok _ h
  exact am_at_in hi
theorem am_ac_w {t : FieldType} (h : t ∈ [FieldType.int, .char, .long, .byte]) : Cond.arrayClass t ∈ am_W := by
  obtain ⟨i, hi⟩ := am_al2_in am_ac_ok _ h
  exact am_at_in hi
theorem am_ins_w {ci : Nat} (h : ci < 10) : Cond.instantiable (am_cR ci) (am_cN ci) ∈ am_W := by
  obtain ⟨i, hi⟩ := am_al2_in am_ins_ok _ (List.mem_range.mpr h)
  exact am_at_in hi
theorem am_init_w {ci : Nat} (h : ci < 11) : Cond.initialized (am_cR ci) ∈ am_W := by
  obtain ⟨i, hi⟩ := am_al2_in am_init_ok _ (List.mem_range.mpr h)
  exact am_at_in hi
theorem am_ob_w {w : Cond} (h : w ∈ am_ob) : w ∈ am_W := by
  obtain ⟨i, hi⟩ := am_al2_in am_ob_ok _ h
  exact am_at_in hi
def am_le (X Y : am_X) : Prop := X.2.2.1 ≤ Y.2.2.1 ∧ X.2.2.2.1 ≤ Y.2.2.2.1
theorem va_S.am {A : Nat → Prop} {H0 H H1 : Heap} {locs L : List Loc} (h : va_S A H0 H locs) (hz : H.size ≤ H1.size) (ho : ∀ q : Nat, q < H.size → ¬ A q → H1[q]? = H[q]?) (hL : ∀ x ∈ L, A x.base) : va_S A H0 H1 (locs ++ L) :=
  ⟨Nat.le_trans h.1 hz, fun q h1 h2 => (ho q (Nat.lt_of_lt_of_le h1 h.1) h2).trans (h.2.1 q h1 h2), fun x hx => (List.mem_append.mp hx).elim (h.2.2 x) (hL x)⟩
theorem am_rk.set {T : am_T} {l v : am_L} {j : Nat} (h : am_rk T) (hv : v.1 ≠ 1 ∧ v.1 ≠ 50) : am_rk (am_setT T l j (some v)) := by
  intro l' j' u hu
  unfold am_setT at hu
  split at hu
  · cases hu; exact hv
  · exact h l' j' u hu
section AmHeap
variable {p : Program} {l : Launch} {e : Env} {R : Room} {s : State} {m : MethodId} {args : Array Value} {below : List Frame} {meth : Method} {c : Code} {Q : State → Prop} {G : am_Γ} {z : Nat} {X0 : am_X} {call : Nat → List am_V → am_M → am_X → Option am_R} {pc : Nat} {ls : am_S} {st : List am_V} {M : am_M} {X : am_X}
theorem am_adr_A {l0 : am_L} (hb : am_b0 G ≤ G.1) (h : am_ok l0 = true) : am_A G (am_adr G l0) := by
  show am_b0 G ≤ am_adr G l0
  rw [am_adr_ok h]
  exact Nat.le_trans hb (Nat.le_add_right _ _)
/-- putfield of a value at a known object -/
theorem am_Wput {H : Heap} {locs : List Loc} {cells slots : Nat} {lsc : Array Slot} {rest : List Value} (C : am_Cx p l s m args meth c G z) {ix ci j a : Nat} {V : Nat → Value} {vv : Value} (dg : decode (am_by z) pc = .ok (.putfield ix, 3)) (hf : am_fl (am_own z) ix = some (ci, j)) (hff : ¬ (am_ff ci j = true ∧ ¬ (am_ini z = true ∧ am_own z = ci)))
    (hcell : t_OB a (G.2.2.1.1 ci) (am_cN ci) (G.2.2.1.2 ci) H V) (hn : narrow (am_cY ci j) vv = vv) (hfit : fits (am_cY ci j) vv = true)
    (kk : ∀ H' : Heap, H'.size = H.size → (∀ q : Nat, q ≠ a → H'[q]? = H[q]?) → t_OB a (G.2.2.1.1 ci) (am_cN ci) (G.2.2.1.2 ci) H' (updV V j vv) → W p l e R s m args below meth c H' (locs ++ [⟨a, G.2.2.1.2 ci j⟩]) cells slots Q (F0 m (pc + 3) lsc rest)) :
    W p l e R s m args below meth c H locs cells slots Q (F0 m pc lsc (vv :: .ref a :: rest)) := by
  obtain ⟨hx, hb, hml, hown, hts, hK, hU, hN, hX, hbb, hlk, hst, hini⟩ := C
  obtain ⟨hw, hj, hci, hdc⟩ := am_fl_w hf
  have hcl := am_cl_at ci hci
  have hin := am_cl_in ci hci
  have hap := va_apart (own := am_cR (am_own z)) hts hin (am_cY ci) (am_cY_ok ci hci) (am_nm_ok ci hci) hK hcl
  obtain ⟨cell, q1, q2, q3, q4⟩ := hcell
  obtain ⟨hS, hfc, kC, hkC, hkind⟩ := hK.1 ci _ hcl
  obtain ⟨cf, kf, fi, f, hi, hsl⟩ := hS j hj
  have hlay := hts _ (hin _ (u_in_lay hj))
  have hd := am_cY_ok ci hci j hj
  have hst := (u_facts hfc hkC (u_lays hts hin hj) hi).1
  unfold u_lay at hlay
  cases hfin : (am_cT ci j).2.2.2 with
  | false =>
    rw [if_neg (by rw [hfin]; decide)] at hlay
    have h6 := u_store hfc hkC hkind hlay hi hd hn hfit
    refine W.putK hx hb (f := f) ⟨hown, hts _ hw, ⟨_, _, _, by rw [← hdc]; exact hi⟩, hst⟩ (by rw [q2]; exact h6) q1 q3 (by rw [hsl]; exact k2_hasslot (q4 j hj)) rfl rfl dg fun H' e1 e2 e3 => ?_
    rw [hsl] at e1 ⊢
    exact kk H' e2 e3 ⟨_, e1, q2, q3, t_set q4 hap hj vv⟩
  | true =>
    rw [if_pos hfin] at hlay
    have hcf : m.cls = cf := by
      obtain ⟨_, _, c', _, _, _, -, -, hf', -, -, -, hown2, -⟩ := Cond.laysFinal_spec hlay
      have e1 : c' = cf := by have := hi.symm.trans hf'; simp at this; exact this.1.symm
      have e0 : am_own z = ci := Classical.byContradiction fun q => hff ⟨hfin, fun w => q w.2⟩
      rw [hdc, ← e0] at hown2
      rw [← e1]; exact Option.some.inj (hown.symm.trans hown2)
    have hin2 : meth.name = "<init>" := hini (Classical.byContradiction fun q => hff ⟨hfin, fun w => q w.1⟩)
    have h6 := u_fits hfc hkC hkind (Or.inr hlay) hi hd hn hfit
    refine W.putFinK hx hb hown (hts _ hw) (by rw [← hdc]; exact hi) hst hcf hin2 (by rw [q2]; exact h6) q1 q3 (by rw [hsl]; exact k2_hasslot (q4 j hj)) rfl rfl dg fun H' e1 e2 e3 => ?_
    rw [hsl] at e1 ⊢
    exact kk H' e2 e3 ⟨_, e1, q2, q3, t_set q4 hap hj vv⟩
theorem am_s_putfield {ix : Nat} (C : am_Cx p l s m args meth c G z) (dg : decode (am_by z) pc = .ok (.putfield ix, 3)) {w} (h : am_st call z (.putfield ix) pc ls st M X = some (.inl w)) (K : am_Sm p l e R s m args below meth c Q G z X0 w) : am_Sm p l e R s m args below meth c Q G z X0 (pc, ls, st, M, X) := by
  simp only [am_st, am_ex] at h
  intro H locs lsc hH hS hl
  dsimp only at hH hl ⊢
  split at h
  · cases h
  rename_i ci j hf
  obtain ⟨hff, h1⟩ := am_ifn_i h
  obtain ⟨hw, hj, hci, hdc⟩ := am_fl_w hf
  split at h1
  · rename_i hk
    obtain ⟨v, st1, rfl, h2⟩ := am_popP_i h1
    obtain ⟨l0, st2, rfl, h3⟩ := am_popP_i h2
    obtain ⟨hal, hkd, h4⟩ := am_chk_i h3
    obtain ⟨hv, h5⟩ := am_if_i h4
    cases h5
    have hl0 := am_kd_ne hkd (by decide)
    have hc0 := hH.1 l0 hal hl0
    unfold am_cell at hc0
    simp only [hkd] at hc0
    show W p l e R s m args below meth c H locs _ _ Q (F0 m pc lsc (am_rv G (some v) :: am_rv G (some l0) :: st2.map (am_tv G)))
    rw [am_rv_ref hl0]
    obtain ⟨f1, f2⟩ := am_ref_fits (a := if v.1 = 0 then G.2.1 else am_adr G v) (am_ref_ty ci hci j hj hk)
    refine am_Wput C dg hf hff hc0 f1 f2 (fun H' hz ho hc1 => ?_)
    refine K H' _ lsc (am_HR.upd hH hal hl0 hz ho (fun _ _ => rfl) (fun l' h => am_setT_ne h) rfl rfl (am_rk.set hH.2.2.2.1 (am_ok_k (am_al_ok hv))) ?_) (hS.am (Nat.le_of_eq hz.symm) (fun q _ hq => ho q (fun z => hq (by rw [z]; exact am_adr_A C.b0 (am_al_ok hal)))) (fun x hx => by rw [List.mem_singleton.mp hx]; exact am_adr_A C.b0 (am_al_ok hal))) hl
    unfold am_cell
    simp only [hkd]
    refine hc1.to (fun k _ => ?_)
    unfold updV am_fv am_setT
    by_cases hkj : k = j
    · subst hkj
      simp [hk, am_rv]
    · simp [hkj]
  · rename_i hk
    obtain ⟨x, st1, rfl, h2⟩ := am_popI_i h1
    obtain ⟨l0, st2, rfl, h3⟩ := am_popP_i h2
    obtain ⟨hal, hkd, h4⟩ := am_chk_i h3
    obtain ⟨hv, h5⟩ := am_if_i h4
    cases h5
    have hl0 := am_kd_ne hkd (by decide)
    have hc0 := hH.1 l0 hal hl0
    unfold am_cell at hc0
    simp only [hkd] at hc0
    show W p l e R s m args below meth c H locs _ _ Q (F0 m pc lsc (.int x :: am_rv G (some l0) :: st2.map (am_tv G)))
    rw [am_rv_ref hl0]
    obtain ⟨f1, f2⟩ := am_pc_nar hci hj hv
    refine am_Wput C dg hf hff hc0 f1 f2 (fun H' hz ho hc1 => ?_)
    refine K H' _ lsc (am_HR.upd hH hal hl0 hz ho (fun l' h => am_set_ne h) (fun l' h => rfl) rfl rfl hH.2.2.2.1 ?_) (hS.am (Nat.le_of_eq hz.symm) (fun q _ hq => ho q (fun z => hq (by rw [z]; exact am_adr_A C.b0 (am_al_ok hal)))) (fun x hx => by rw [List.mem_singleton.mp hx]; exact am_adr_A C.b0 (am_al_ok hal))) hl
    unfold am_cell
    simp only [hkd]
    refine hc1.to (fun k _ => ?_)
    unfold updV am_fv
    rw [am_set_self]
    unfold upd
    by_cases hkj : k = j
    · subst hkj
      simp [hk]
    · simp [hkj]
theorem am_arr_eq {cA : ClassId} {n : Nat} {f g : Nat → Value} (h : ∀ k, k < n → f k = g k) : some (arrV cA n f) = some (arrV cA n g) := by
  have e : Array.ofFn (n := n) (fun j => f j.val) = Array.ofFn (n := n) fun j => g j.val := congrArg (Array.ofFn (n := n)) (funext fun j => h j.val j.isLt)
  unfold arrV
  rw [e]
theorem am_in_sz {cA : ClassId} {n : Nat} {f : Nat → Value} {i : Int32} (h : vp_in i n) : ¬ (i < 0 ∨ (arrV cA n f).slots.size ≤ i.toNatClampNeg) := by rw [arrV_size]; exact h
theorem am_in_lt {n : Nat} {i : Int32} (h : vp_in i n) : i.toNatClampNeg < n := Nat.not_le.mp fun q => h (Or.inr q)
/-- an array's cell -/
theorem am_cell_1 {H : Heap} {l0 : am_L} {n b : Nat} (hkd : am_kd l0 = (1, n, b)) : am_cell G M X l0 H ↔ H[am_adr G l0]? = some (arrV (G.2.2.2.1 0) n (fun j => .int (M l0 j))) := by unfold am_cell; simp only [hkd]
theorem am_cell_2 {H : Heap} {l0 : am_L} {n b : Nat} (hkd : am_kd l0 = (2, n, b)) : am_cell G M X l0 H ↔ H[am_adr G l0]? = some (arrV (G.2.2.2.1 1) n (fun j => .int (M l0 j))) := by unfold am_cell; simp only [hkd]
theorem am_cell_3 {H : Heap} {l0 : am_L} {n b : Nat} (hkd : am_kd l0 = (3, n, b)) : am_cell G M X l0 H ↔ H[am_adr G l0]? = some (arrV (G.2.2.2.1 (10 + n)) b (fun j => am_rv G (X.1 l0 j))) := by unfold am_cell; simp only [hkd]
theorem am_s_iaload (C : am_Cx p l s m args meth c G z) (dg : decode (am_by z) pc = .ok (.iaload, 1)) {w} (h : am_st call z .iaload pc ls st M X = some (.inl w)) (K : am_Sm p l e R s m args below meth c Q G z X0 w) : am_Sm p l e R s m args below meth c Q G z X0 (pc, ls, st, M, X) := by
  obtain ⟨hx, hb, hml, hown, hts, hK, hU, hN, hX, hbb, hlk, hst, hini⟩ := C
  simp only [am_st, am_ex] at h
  intro H locs lsc hH hS hl
  dsimp only at hH hl ⊢
  obtain ⟨i, st1, rfl, h1⟩ := am_popI_i h
  obtain ⟨l0, st2, rfl, h2⟩ := am_popP_i h1
  split at h2
  · obtain ⟨⟨rfl, hi⟩, h3⟩ := am_if_i h2
    cases h3
    have hL : (M (0, 0, 1) 0).toNatClampNeg = G.2.2.2.2.1 := by
      rw [hH.2.1.1]
      exact nI_clamp (by omega)
    rw [hL] at hi
    have hi : vp_in i G.2.2.2.2.1 := hi
    show W p l e R s m args below meth c H locs _ _ Q (F0 m pc lsc (.int i :: .ref G.2.1 :: st2.map (am_tv G)))
    refine va_sld (A := am_A G) hx hb hX (by omega) (by show ¬ am_b0 G ≤ G.2.1; omega) hS hi dg ?_
    rw [← hH.2.1.2 _ (am_in_lt hi)]
    exact K H locs lsc hH hS hl
  · obtain ⟨hal, hkd, hi, h3⟩ := am_arr_i h2
    cases h3
    have hl0 := am_kd_ne hkd (by decide)
    show W p l e R s m args below meth c H locs _ _ Q (F0 m pc lsc (.int i :: am_rv G (some l0) :: st2.map (am_tv G)))
    rw [am_rv_ref hl0]
    exact W.iald (v := .int (M l0 i.toNatClampNeg)) hx hb ((am_cell_1 hkd).mp (hH.1 l0 hal hl0)) ((hK.2 0 _ rfl).1 _ _) (fun q => by cases q) (am_in_sz hi) (by rw [arrV_read _ _ (am_in_lt hi)]) rfl rfl dg (K H locs lsc hH hS hl)
theorem am_s_caload (C : am_Cx p l s m args meth c G z) (dg : decode (am_by z) pc = .ok (.caload, 1)) {w} (h : am_st call z .caload pc ls st M X = some (.inl w)) (K : am_Sm p l e R s m args below meth c Q G z X0 w) : am_Sm p l e R s m args below meth c Q G z X0 (pc, ls, st, M, X) := by
  obtain ⟨hx, hb, hml, hown, hts, hK, hU, hN, hX, hbb, hlk, hst, hini⟩ := C
  simp only [am_st, am_ex] at h
  intro H locs lsc hH hS hl
  dsimp only at hH hl ⊢
  obtain ⟨i, st1, rfl, h1⟩ := am_popI_i h
  obtain ⟨l0, st2, rfl, h2⟩ := am_popP_i h1
  obtain ⟨hal, hkd, hi, h3⟩ := am_arr_i h2
  cases h3
  have hl0 := am_kd_ne hkd (by decide)
  show W p l e R s m args below meth c H locs _ _ Q (F0 m pc lsc (.int i :: am_rv G (some l0) :: st2.map (am_tv G)))
  rw [am_rv_ref hl0]
  exact W.cald (v := .int (M l0 i.toNatClampNeg)) hx hb ((am_cell_2 hkd).mp (hH.1 l0 hal hl0)) ((hK.2 1 _ rfl).1 _ _) (fun q => by cases q) (am_in_sz hi) (by rw [arrV_read _ _ (am_in_lt hi)]) rfl rfl dg (K H locs lsc hH hS hl)
theorem am_s_aaload (C : am_Cx p l s m args meth c G z) (dg : decode (am_by z) pc = .ok (.aaload, 1)) {w} (h : am_st call z .aaload pc ls st M X = some (.inl w)) (K : am_Sm p l e R s m args below meth c Q G z X0 w) : am_Sm p l e R s m args below meth c Q G z X0 (pc, ls, st, M, X) := by
  obtain ⟨hx, hb, hml, hown, hts, hK, hU, hN, hX, hbb, hlk, hst, hini⟩ := C
  simp only [am_st, am_ex] at h
  intro H locs lsc hH hS hl
  dsimp only at hH hl ⊢
  obtain ⟨i, st1, rfl, h1⟩ := am_popI_i h
  obtain ⟨l0, st2, rfl, h2⟩ := am_popP_i h1
  obtain ⟨hal, hkd, hi, h3⟩ := am_arr_i h2
  cases h3
  have hl0 := am_kd_ne hkd (by decide)
  obtain ⟨⟨k, hk⟩, -⟩ := am_kd_3 (G := G) hkd
  show W p l e R s m args below meth c H locs _ _ Q (F0 m pc lsc (.int i :: am_rv G (some l0) :: st2.map (am_tv G)))
  rw [am_rv_ref hl0]
  exact W.aald (v := am_rv G (X.1 l0 i.toNatClampNeg)) (ty := .object _) hx hb ((am_cell_3 hkd).mp (hH.1 l0 hal hl0)) ((hK.2 k _ hk).1 _ _) rfl (fun q => by cases q) (am_in_sz hi) (by rw [arrV_read _ _ (am_in_lt hi)]) rfl rfl dg (K H locs lsc hH hS hl)
theorem am_s_laload (C : am_Cx p l s m args meth c G z) (dg : decode (am_by z) pc = .ok (.laload, 1)) {w} (h : am_st call z .laload pc ls st M X = some (.inl w)) (K : am_Sm p l e R s m args below meth c Q G z X0 w) : am_Sm p l e R s m args below meth c Q G z X0 (pc, ls, st, M, X) := by
  obtain ⟨hx, hb, hml, hown, hts, hK, hU, hN, hX, hbb, hlk, hst, hini⟩ := C
  simp only [am_st, am_ex] at h
  intro H locs lsc hH hS hl
  dsimp only at hH hl ⊢
  obtain ⟨i, st1, rfl, h1⟩ := am_popI_i h
  obtain ⟨l0, st2, rfl, h2⟩ := am_popP_i h1
  obtain ⟨⟨rfl, hi⟩, h3⟩ := am_if_i h2
  rcases am_o2_i h3 with ⟨f, hf, h4⟩ | ⟨-, h4⟩
  · cases h4
    have hi : vp_in i 13 := hi
    show W p l e R s m args below meth c H locs _ _ Q (F0 m pc lsc (.int i :: .ref (am_wa G) :: st2.map (am_tv G)))
    exact W.lald (v := .long (f i.toNatClampNeg)) hx hb (hH.2.2.2.2.1 f hf).2 ((hK.2 2 _ rfl).1 _ _) (fun q => by cases q) (am_in_sz hi) (by rw [arrV_read _ _ (am_in_lt hi)]) rfl rfl dg (K H locs lsc hH hS hl)
  · cases h4
/-- after a store into an array: the world, and what was written -/
theorem am_stored {H H' : Heap} {locs : List Loc} {lsc : Array Slot} {l0 : am_L} {k : Nat} {M' : am_M} {X' : am_X} {pc' : Nat} {st' : List am_V} (hH : am_HR G M X H) (hS : va_S (am_A G) s.heap H locs) (hl : am_lv G (am_mL z) ls lsc) (hal : am_al X.2.1 l0 = true) (hl0 : l0.1 ≠ 0) (hz : H'.size = H.size) (ho : ∀ q : Nat, q ≠ am_adr G l0 → H'[q]? = H[q]?)
    (hM : ∀ l', l' ≠ l0 → M' l' = M l') (hT : ∀ l', l' ≠ l0 → X'.1 l' = X.1 l') (hph : X'.2.1 = X.2.1) (hc : X'.2.2.1 = X.2.2.1) (hs : X'.2.2.2.1 = X.2.2.2.1) (h45 : X'.2.2.2.2 = X.2.2.2.2) (hk : am_rk X'.1) (hb0 : am_b0 G ≤ G.1) (hcl : am_cell G M' X' l0 H')
    (K : am_Sm p l e R s m args below meth c Q G z X0 (pc', ls, st', M', X')) : W p l e R s m args below meth c H' (locs ++ [⟨am_adr G l0, k⟩]) (X.2.2.1 - X0.2.2.1) (X.2.2.2.1 - X0.2.2.2.1) Q (F0 m pc' lsc (st'.map (am_tv G))) := by
  have h := K H' (locs ++ [⟨am_adr G l0, k⟩]) lsc (am_HR.upd hH hal hl0 hz ho hM hT hph h45 hk hcl) (hS.am (Nat.le_of_eq hz.symm) (fun q _ hq => ho q (fun z => hq (by rw [z]; exact am_adr_A hb0 (am_al_ok hal)))) (fun x hx => by rw [List.mem_singleton.mp hx]; exact am_adr_A hb0 (am_al_ok hal))) hl
  dsimp only at h
  rw [hc, hs] at h
  exact h
theorem am_s_iastore (C : am_Cx p l s m args meth c G z) (dg : decode (am_by z) pc = .ok (.iastore, 1)) {w} (h : am_st call z .iastore pc ls st M X = some (.inl w)) (K : am_Sm p l e R s m args below meth c Q G z X0 w) : am_Sm p l e R s m args below meth c Q G z X0 (pc, ls, st, M, X) := by
  obtain ⟨hx, hb, hml, hown, hts, hK, hU, hN, hX, hbb, hlk, hst, hini⟩ := C
  simp only [am_st, am_ex] at h
  intro H locs lsc hH hS hl
  dsimp only at hH hl ⊢
  obtain ⟨x, st1, rfl, h1⟩ := am_popI_i h
  obtain ⟨i, st2, rfl, h2⟩ := am_popI_i h1
  obtain ⟨l0, st3, rfl, h3⟩ := am_popP_i h2
  obtain ⟨hal, hkd, hi, h4⟩ := am_arr_i h3
  cases h4
  have hl0 := am_kd_ne hkd (by decide)
  show W p l e R s m args below meth c H locs _ _ Q (F0 m pc lsc (.int x :: .int i :: am_rv G (some l0) :: st3.map (am_tv G)))
  rw [am_rv_ref hl0]
  refine W.iast hx hb ((am_cell_1 hkd).mp (hH.1 l0 hal hl0)) ((hK.2 0 _ rfl).1 _ _) (fun q => by cases q) (am_in_sz hi) rfl rfl dg (fun H' e1 hz ho => ?_)
  refine am_stored hH hS hl hal hl0 hz ho (fun l' h => am_set_ne h) (fun _ _ => rfl) rfl rfl rfl rfl hH.2.2.2.1 hbb.2.2.2 ?_ K
  rw [am_cell_1 hkd, e1, arrV_store]
  refine am_arr_eq (fun k _ => ?_)
  rw [am_set_self]
  unfold updV upd
  split <;> rfl
theorem am_s_castore (C : am_Cx p l s m args meth c G z) (dg : decode (am_by z) pc = .ok (.castore, 1)) {w} (h : am_st call z .castore pc ls st M X = some (.inl w)) (K : am_Sm p l e R s m args below meth c Q G z X0 w) : am_Sm p l e R s m args below meth c Q G z X0 (pc, ls, st, M, X) := by
  obtain ⟨hx, hb, hml, hown, hts, hK, hU, hN, hX, hbb, hlk, hst, hini⟩ := C
  simp only [am_st, am_ex] at h
  intro H locs lsc hH hS hl
  dsimp only at hH hl ⊢
  obtain ⟨x, st1, rfl, h1⟩ := am_popI_i h
  obtain ⟨i, st2, rfl, h2⟩ := am_popI_i h1
  obtain ⟨l0, st3, rfl, h3⟩ := am_popP_i h2
  obtain ⟨hal, hkd, hi, h4⟩ := am_arr_i h3
  cases h4
  have hl0 := am_kd_ne hkd (by decide)
  show W p l e R s m args below meth c H locs _ _ Q (F0 m pc lsc (.int x :: .int i :: am_rv G (some l0) :: st3.map (am_tv G)))
  rw [am_rv_ref hl0]
  refine W.cast hx hb ((am_cell_2 hkd).mp (hH.1 l0 hal hl0)) ((hK.2 1 _ rfl).1 _ _) (fun q => by cases q) (am_in_sz hi) rfl rfl dg (fun H' e1 hz ho => ?_)
  refine am_stored hH hS hl hal hl0 hz ho (fun l' h => am_set_ne h) (fun _ _ => rfl) rfl rfl rfl rfl hH.2.2.2.1 hbb.2.2.2 ?_ K
  rw [am_cell_2 hkd, e1, arrV_store]
  refine am_arr_eq (fun k _ => ?_)
  rw [am_set_self]
  unfold updV upd
  split
  · simp [vp_nar]
    try rfl
  · rfl
theorem am_s_lastore (C : am_Cx p l s m args meth c G z) (dg : decode (am_by z) pc = .ok (.lastore, 1)) {w} (h : am_st call z .lastore pc ls st M X = some (.inl w)) (K : am_Sm p l e R s m args below meth c Q G z X0 w) : am_Sm p l e R s m args below meth c Q G z X0 (pc, ls, st, M, X) := by
  obtain ⟨hx, hb, hml, hown, hts, hK, hU, hN, hX, hbb, hlk, hst, hini⟩ := C
  simp only [am_st, am_ex] at h
  intro H locs lsc hH hS hl
  dsimp only at hH hl ⊢
  obtain ⟨x, st1, rfl, h1⟩ := am_popJ_i h
  obtain ⟨i, st2, rfl, h2⟩ := am_popI_i h1
  obtain ⟨l0, st3, rfl, h3⟩ := am_popP_i h2
  obtain ⟨⟨rfl, hi, hs0⟩, h4⟩ := am_if_i h3
  rcases am_o2_i h4 with ⟨f, hf, h5⟩ | ⟨-, h5⟩
  · cases h5
    have hi : vp_in i 13 := hi
    obtain ⟨w1, w2⟩ := hH.2.2.2.2.1 f hf
    show W p l e R s m args below meth c H locs _ _ Q (F0 m pc lsc (.long x :: .int i :: .ref (am_wa G) :: st3.map (am_tv G)))
    refine W.last hx hb w2 ((hK.2 2 _ rfl).1 _ _) (fun q => by cases q) (am_in_sz hi) rfl rfl dg (fun H' e1 hz ho => ?_)
    obtain ⟨a1, a2, a4, a5⟩ := hH
    refine K H' (locs ++ [_]) lsc ⟨fun l' hl' h0' => ?_, a2, ?_, a5.1, fun g hg => ⟨w1, ?_⟩, fun t ht => by cases ht⟩ (hS.am (Nat.le_of_eq hz.symm) (fun q _ hq => ho q (fun z => hq (by rw [z]; show am_b0 G ≤ _; omega))) (fun y hy => by rw [List.mem_singleton.mp hy]; show am_b0 G ≤ am_wa G; omega)) hl
    · have hok := am_al_ok hl'
      have := am_ad_lt hok h0'
      exact (a1 l' hl' h0').kept (ho _ (by rw [am_adr_ok hok]; show G.1 + am_ad l' ≠ am_wa G; omega)) rfl rfl
    · dsimp only
      cases hx1 : X.2.1 with
      | none =>
        rw [hx1] at a4
        dsimp only at a4 ⊢
        omega
      | some c =>
        rw [hx1] at a4
        dsimp only at a4 ⊢
        exact ⟨by omega, a4.2⟩
    · have hg := Option.some.inj hg
      subst hg
      rw [e1, arrV_store]
      refine am_arr_eq (fun k hk => ?_)
      unfold updV
      show _ = Value.long (if k = i.toNatClampNeg then x else f k)
      by_cases hki : k = i.toNatClampNeg
      · simp only [if_pos hki, upd]
        try rfl
      · simp only [if_neg hki, upd]
        try rfl
  · cases h5
theorem am_s_aastore (C : am_Cx p l s m args meth c G z) (dg : decode (am_by z) pc = .ok (.aastore, 1)) {w} (h : am_st call z .aastore pc ls st M X = some (.inl w)) (K : am_Sm p l e R s m args below meth c Q G z X0 w) : am_Sm p l e R s m args below meth c Q G z X0 (pc, ls, st, M, X) := by
  obtain ⟨hx, hb, hml, hown, hts, hK, hU, hN, hX, hbb, hlk, hst, hini⟩ := C
  simp only [am_st, am_ex] at h
  intro H locs lsc hH hS hl
  dsimp only at hH hl ⊢
  obtain ⟨v, st1, rfl, h1⟩ := am_popP_i h
  obtain ⟨i, st2, rfl, h2⟩ := am_popI_i h1
  obtain ⟨l0, st3, rfl, h3⟩ := am_popP_i h2
  obtain ⟨hal, hkd, hi, h4⟩ := am_arr_i h3
  obtain ⟨halv, hkv, h5⟩ := am_chk_i h4
  cases h5
  have hl0 := am_kd_ne hkd (by decide)
  have hv0 := am_kd_ne hkv (by decide)
  have hci := am_kd_ci hkv
  obtain ⟨⟨k, hk⟩, -⟩ := am_kd_3 (G := G) hkd
  show W p l e R s m args below meth c H locs _ _ Q (F0 m pc lsc (am_rv G (some v) :: .int i :: am_rv G (some l0) :: st3.map (am_tv G)))
  rw [am_rv_ref hl0, am_rv_ref hv0]
  have hcv := hH.1 v halv hv0
  unfold am_cell at hcv
  simp only [hkv] at hcv
  obtain ⟨cellV, g1, g2, g3, -⟩ := hcv
  have hcls := (hK.1 _ _ (am_cl_at _ hci)).2
  obtain ⟨kA, comp, k1, k2, k3, -⟩ := (hK.2 k _ hk).2
  have hcomp : comp = G.2.2.1.1 (am_kd l0).2.1 := Option.some.inj (k3.symm.trans hcls.1)
  subst hcomp
  obtain ⟨kC, hkC, -⟩ := hcls.2
  refine W.aast hx hb ((am_cell_3 hkd).mp (hH.1 l0 hal hl0)) (fun q h => by cases h) (fun h => by cases h) k1 k2 rfl hkC ⟨fun q => hi (Or.inl q), by rw [arrV_size]; exact am_in_lt hi⟩ g1 (fun q h => by rw [g3] at h; cases h) (by rw [g2]; exact hkC) (by rw [g2]; exact va_assign hcls) rfl rfl dg (fun H' e1 hz ho => ?_)
  refine am_stored (X' := (am_setT X.1 l0 i.toNatClampNeg (some v), X.2)) hH hS hl hal hl0 hz ho (fun _ _ => rfl) (fun l' h => am_setT_ne h) rfl rfl rfl rfl (am_rk.set hH.2.2.2.1 (am_ok_k (am_al_ok halv))) hbb.2.2.2 ?_ K
  rw [am_cell_3 hkd, e1, arrV_store]
  refine am_arr_eq (fun q _ => ?_)
  unfold updV am_setT
  by_cases hq : q = i.toNatClampNeg
  · subst hq
    simp [am_rv_ref hv0]
  · simp [hq]
theorem am_s_alen (C : am_Cx p l s m args meth c G z) (dg : decode (am_by z) pc = .ok (.arraylength, 1)) {w} (h : am_st call z .arraylength pc ls st M X = some (.inl w)) (K : am_Sm p l e R s m args below meth c Q G z X0 w) : am_Sm p l e R s m args below meth c Q G z X0 (pc, ls, st, M, X) := by
  obtain ⟨hx, hb, hml, hown, hts, hK, hU, hN, hX, hbb, hlk, hst, hini⟩ := C
  simp only [am_st, am_ex] at h
  intro H locs lsc hH hS hl
  dsimp only at hH hl ⊢
  obtain ⟨l0, st1, rfl, h1⟩ := am_popP_i h
  obtain ⟨rfl, h2⟩ := am_if_i h1
  cases h2
  show W p l e R s m args below meth c H locs _ _ Q (F0 m pc lsc (.ref G.2.1 :: st1.map (am_tv G)))
  refine va_slen (A := am_A G) hx hb hX (by omega) (by show ¬ am_b0 G ≤ G.2.1; omega) hS dg ?_
  have h := K H locs lsc hH hS hl
  dsimp only at h
  rw [hH.2.1.1] at h
  exact h
/-- a new cell of ours -/
theorem am_made {H H' : Heap} {locs : List Loc} {lsc : Array Slot} {l0 : am_L} {c0 n pc' : Nat} {st' : List am_V} (hH : am_HR G M X H) (hS : va_S (am_A G) s.heap H locs) (hl : am_lv G (am_mL z) ls lsc) (hp : X.2.1 = some c0) (hok : am_ok l0 = true) (hl0 : l0.1 ≠ 0) (hc : am_ad l0 = c0) (hz : H'.size = H.size + 1) (ho : ∀ q : Nat, q < H.size → H'[q]? = H[q]?) (hle : am_le X0 X)
    (hcell : am_cell G M (X.1, am_nph c0, X.2.2.1 + 1, X.2.2.2.1 + n, X.2.2.2.2) l0 H') (K : am_Sm p l e R s m args below meth c Q G z X0 (pc', ls, .inr (some l0) :: st', M, (X.1, am_nph c0, X.2.2.1 + 1, X.2.2.2.1 + n, X.2.2.2.2))) :
    W p l e R s m args below meth c H' locs (X.2.2.1 - X0.2.2.1 + 1) (X.2.2.2.1 - X0.2.2.2.1 + n) Q (F0 m pc' lsc (.ref H.size :: st'.map (am_tv G))) := by
  have hsz : H.size = am_adr G l0 := by
    have h4 := hH.2.2.1
    rw [hp] at h4
    rw [am_adr_ok hok, h4.1, ← hc]
  have h := K H' locs lsc (am_HR.new hH hp hok hl0 hc hz ho rfl rfl rfl hcell) (by have := hS.am (L := []) (H1 := H') (by omega) (fun q hq _ => ho q hq) (fun x hx => by cases hx); rwa [List.append_nil] at this) hl
  have h2 : W p l e R s m args below meth c H' locs (X.2.2.1 + 1 - X0.2.2.1) (X.2.2.2.1 + n - X0.2.2.2.1) Q (F0 m pc' lsc (am_rv G (some l0) :: st'.map (am_tv G))) := h
  rw [am_rv_ref hl0, ← hsz] at h2
  obtain ⟨g1, g2⟩ := hle
  exact W.cs (by omega) (by omega) h2
theorem am_s_new {ix ci : Nat} (C : am_Cx p l s m args meth c G z) (hn0 : ¬ (z = 227 ∧ X.2.1 = none ∧ st = [])) (hnw : am_nw (am_own z) ix = some (.inl ci)) (dg : decode (am_by z) pc = .ok (.new ix, 3)) {w} (h : am_st call z (.new ix) pc ls st M X = some (.inl w)) (hle : am_le X0 X) (hrm : w.2.2.2.2.2.2.1 - X0.2.2.1 ≤ R.cells ∧ w.2.2.2.2.2.2.2.1 - X0.2.2.2.1 ≤ R.slots) (K : am_Sm p l e R s m args below meth c Q G z X0 w) : am_Sm p l e R s m args below meth c Q G z X0 (pc, ls, st, M, X) := by
  obtain ⟨hx, hb, hml, hown, hts, hK, hU, hN, hX, hbb, hlk, hst, hini⟩ := C
  simp only [am_st, am_ex, hnw] at h
  intro H locs lsc hH hS hl
  dsimp only at hH hl ⊢
  rw [if_neg hn0] at h
  obtain ⟨c0, l0, hp, hok, had, hkd, hl0, h1⟩ := am_nu_i h
  cases h1
  obtain ⟨i, hi⟩ := am_al2_in am_nw_ok _ (am_look_in hnw)
  simp only [am_nww, Bool.and_eq_true, decide_eq_true_eq] at hi
  obtain ⟨-, hi, hci⟩ := hi
  obtain ⟨g1, g2⟩ := hle
  dsimp only at hrm
  have hKn := hK.1 ci _ (am_cl_at ci hci)
  have h4 := hH.2.2.1
  rw [hp] at h4
  dsimp only at h4
  refine W.newcK hx hb hown (hts _ (am_at_in hi)) (hts _ (am_ins_w hci)) (hts _ (am_init_w (by omega))) rfl dg (by omega) (by omega) hKn.2.1 rfl fun H' kC hkC e1 z1 o1 => ?_
  refine am_made hH hS hl hp hok hl0 had z1 o1 ⟨g1, g2⟩ ?_ K
  unfold am_cell
  simp only [hkd]
  have hb0 := u_born (am_cY ci) hts (am_cl_in ci hci) hKn hkC e1 (am_cY_ok ci hci)
  have hsz : H.size = am_adr G l0 := by rw [am_adr_ok hok, h4.1, ← had]
  rw [hsz] at hb0
  refine hb0.to (fun k hk => ?_)
  rw [am_def_ty ci hci k hk]
  obtain ⟨n1, n2⟩ := h4.2 l0 hok hl0 (by omega)
  unfold am_fv
  rw [n1, n2]
  rfl
theorem am_s_newint (C : am_Cx p l s m args meth c G z) (dg : decode (am_by z) pc = .ok (.newarray .int, 2)) {w} (h : am_st call z (.newarray .int) pc ls st M X = some (.inl w)) (hle : am_le X0 X) (hrm : w.2.2.2.2.2.2.1 - X0.2.2.1 ≤ R.cells ∧ w.2.2.2.2.2.2.2.1 - X0.2.2.2.1 ≤ R.slots) (K : am_Sm p l e R s m args below meth c Q G z X0 w) : am_Sm p l e R s m args below meth c Q G z X0 (pc, ls, st, M, X) := by
  obtain ⟨hx, hb, hml, hown, hts, hK, hU, hN, hX, hbb, hlk, hst, hini⟩ := C
  simp only [am_st, am_ex] at h
  intro H locs lsc hH hS hl
  dsimp only at hH hl ⊢
  obtain ⟨x, st1, rfl, h1⟩ := am_popI_i h
  obtain ⟨hn, h2⟩ := am_ifn_i h1
  obtain ⟨c0, l0, hp, hok, had, hkd, hl0, h3⟩ := am_nu_i h2
  cases h3
  obtain ⟨g1, g2⟩ := hle
  dsimp only at hrm
  have h4 := hH.2.2.1
  rw [hp] at h4
  dsimp only at h4
  have hsz : H.size = am_adr G l0 := by rw [am_adr_ok hok, h4.1, ← had]
  have hb4 := am_kd_arr hkd
  refine va_newaK hx hb (hts _ (am_ac_w (by simp [newarray.typeOf]))) rfl dg rfl hn rfl (by simp only [newarray.typeOf, componentBytes]; omega) (by omega) (by omega) rfl fun H' cA e1 z1 o1 _ hNm => ?_
  have hcA : cA = G.2.2.2.1 0 := Option.some.inj (hNm.symm.trans (hK.2 0 _ rfl).2)
  subst hcA
  refine am_made hH hS hl hp hok hl0 had z1 o1 ⟨g1, g2⟩ ?_ K
  rw [am_cell_1 hkd, ← hsz, e1]
  obtain ⟨n1, -⟩ := h4.2 l0 hok hl0 (by omega)
  refine am_arr_eq (fun j _ => ?_)
  rw [n1]; rfl
theorem am_s_newchar (C : am_Cx p l s m args meth c G z) (dg : decode (am_by z) pc = .ok (.newarray .char, 2)) {w} (h : am_st call z (.newarray .char) pc ls st M X = some (.inl w)) (hle : am_le X0 X) (hrm : w.2.2.2.2.2.2.1 - X0.2.2.1 ≤ R.cells ∧ w.2.2.2.2.2.2.2.1 - X0.2.2.2.1 ≤ R.slots) (K : am_Sm p l e R s m args below meth c Q G z X0 w) : am_Sm p l e R s m args below meth c Q G z X0 (pc, ls, st, M, X) := by
  obtain ⟨hx, hb, hml, hown, hts, hK, hU, hN, hX, hbb, hlk, hst, hini⟩ := C
  simp only [am_st, am_ex] at h
  intro H locs lsc hH hS hl
  dsimp only at hH hl ⊢
  obtain ⟨x, st1, rfl, h1⟩ := am_popI_i h
  obtain ⟨hn, h2⟩ := am_ifn_i h1
  obtain ⟨c0, l0, hp, hok, had, hkd, hl0, h3⟩ := am_nu_i h2
  cases h3
  obtain ⟨g1, g2⟩ := hle
  dsimp only at hrm
  have h4 := hH.2.2.1
  rw [hp] at h4
  dsimp only at h4
  have hsz : H.size = am_adr G l0 := by rw [am_adr_ok hok, h4.1, ← had]
  have hb4 := am_kd_arr hkd
  refine va_newaK hx hb (hts _ (am_ac_w (by simp [newarray.typeOf]))) rfl dg rfl hn rfl (by simp only [newarray.typeOf, componentBytes]; omega) (by omega) (by omega) rfl fun H' cA e1 z1 o1 _ hNm => ?_
  have hcA : cA = G.2.2.2.1 1 := Option.some.inj (hNm.symm.trans (hK.2 1 _ rfl).2)
  subst hcA
  refine am_made hH hS hl hp hok hl0 had z1 o1 ⟨g1, g2⟩ ?_ K
  rw [am_cell_2 hkd, ← hsz, e1]
  obtain ⟨n1, -⟩ := h4.2 l0 hok hl0 (by omega)
  refine am_arr_eq (fun j _ => ?_)
  rw [n1]; rfl
theorem am_s_anew {ix : Nat} (C : am_Cx p l s m args meth c G z) (dg : decode (am_by z) pc = .ok (.anewarray ix, 3)) {w} (h : am_st call z (.anewarray ix) pc ls st M X = some (.inl w)) (hle : am_le X0 X) (hrm : w.2.2.2.2.2.2.1 - X0.2.2.1 ≤ R.cells ∧ w.2.2.2.2.2.2.2.1 - X0.2.2.2.1 ≤ R.slots) (K : am_Sm p l e R s m args below meth c Q G z X0 w) : am_Sm p l e R s m args below meth c Q G z X0 (pc, ls, st, M, X) := by
  obtain ⟨hx, hb, hml, hown, hts, hK, hU, hN, hX, hbb, hlk, hst, hini⟩ := C
  simp only [am_st, am_ex] at h
  intro H locs lsc hH hS hl
  dsimp only at hH hl ⊢
  split at h
  · rename_i ci haw
    obtain ⟨x, st1, rfl, h1⟩ := am_popI_i h
    obtain ⟨hn, h2⟩ := am_ifn_i h1
    obtain ⟨c0, l0, hp, hok, had, hkd, hl0, h3⟩ := am_nu_i h2
    cases h3
    obtain ⟨i, hi⟩ := am_al2_in am_aw_ok _ (am_look_in haw)
    simp only [Bool.and_eq_true, decide_eq_true_eq] at hi
    obtain ⟨hi, hci⟩ := hi
    obtain ⟨g1, g2⟩ := hle
    dsimp only at hrm
    have h4 := hH.2.2.1
    rw [hp] at h4
    dsimp only at h4
    have hsz : H.size = am_adr G l0 := by rw [am_adr_ok hok, h4.1, ← had]
    have hb4 := am_kd_arr hkd
    obtain ⟨⟨k, hk⟩, hci5⟩ := am_kd_3 (G := G) hkd
    refine W.anew hx hb hown (hts _ (am_at_in hi)) (hts _ (am_ao_w hci5)) rfl dg rfl hn (by omega) (by omega) (by omega) fun cA kA comp f1 f2 f3 f4 => ?_
    obtain ⟨kA', comp', k1, k2, k3, k4⟩ := (hK.2 k _ hk).2
    have hcA : cA = G.2.2.2.1 (10 + ci) := Option.some.inj (f1.symm.trans k4)
    subst hcA
    refine am_made hH hS hl hp hok hl0 had (by simp) (fun q hq => by rw [Array.getElem?_push, if_neg (Nat.ne_of_lt hq)]) ⟨g1, g2⟩ ?_ K
    rw [am_cell_3 hkd, ← hsz, Array.getElem?_push_size]
    obtain ⟨-, n1⟩ := h4.2 l0 hok hl0 (by omega)
    have e : (fun j => am_rv G (X.1 l0 j)) = fun _ => Value.null := by funext j; rw [n1]; rfl
    rw [e, ← arrV_new]
  · cases h
end AmHeap
end
section
/-! CONTRACTS OUT OF THE ABSTRACT MACHINE: the words, what a call says, growth -/
theorem am_W_warm {args a' : Array Value} {s U : State} (hW : s.WarmedH U.vm) {w : Cond} (hw : w ∈ am_W) (h : w.before args s = true) : w.before a' U = true := by
  have hg := (List.mem_filter.mp hw).2
  unfold am_gw at hg
  rw [Bool.or_eq_true] at hg
  rcases hg with hg | hg
  · exact word_at hW (good_of_word hg) h
  · split at hg
    · exact va_Nw.use rfl (va_Nw.warmC hW (va_Nw.of rfl h))
    · exact va_Nw.use rfl (va_Nw.warmM hW (va_Nw.of rfl h))
    · exact va_AO.use (va_AO.moved hW.alike (va_AO.of h))
    · exact va_Nw.use rfl (va_Nw.warmD hW (va_Nw.of rfl h))
    · cases hg
theorem am_z_facts {z : Nat} (hz : am_zk z) : am_cw z ∈ am_W ∧ ((am_ks z = 0 → Cond.static (am_y z) ∈ am_W) ∧ (am_ks z = 1 → Cond.instanceMethod (am_y z) ∈ am_W ∧ Cond.selects (am_cR (am_own z)) (am_y z) (am_y z) ∈ am_W) ∧ (am_ks z = 2 → Cond.instanceMethod (am_y z) ∈ am_W ∧ (am_y z).name = "<init>") ∧ am_ks z < 3) ∧ (am_y z).cls = am_cR (am_own z) ∧ ((am_y z).cls ≠ "java/lang/invoke/MethodHandle" ∧ (am_y z).cls ≠ "java/lang/invoke/VarHandle") ∧ (parseMethodDescriptor (am_y z).desc).map (fun d => d.parameters.length) = some (am_na z) ∧ plainName (am_y z).cls = true ∧ am_own z < 11 ∧ am_ini z = (am_ks z == 2) ∧ am_mL z ≤ 12 ∧ am_na z + (if am_ks z = 0 then 0 else 1) ≤ am_mL z := by
  obtain ⟨q, h⟩ := am_zw_ok z hz
  unfold am_zw at h
  simp only [Bool.and_eq_true, decide_eq_true_eq, beq_iff_eq] at h
  obtain ⟨⟨⟨⟨⟨⟨⟨⟨⟨⟨⟨hA, hB⟩, c1⟩, c2⟩, c3⟩, c4⟩, c5⟩, c6⟩, c7⟩, c8⟩, c9⟩, -⟩ := h
  refine ⟨am_at_in hA, ⟨fun e => ?_, fun e => ?_, fun e => ?_, ?_⟩, c1, ⟨c2, c3⟩, c4, c5, c6, c7, c8, c9⟩
  · rw [e] at hB; exact am_at_in hB
  · rw [e] at hB; simp only [Bool.and_eq_true] at hB; exact ⟨am_at_in hB.1, am_at_in hB.2⟩
  · rw [e] at hB; simp only [Bool.and_eq_true, decide_eq_true_eq] at hB; exact ⟨am_at_in hB.1, hB.2⟩
  · split at hB <;> first | omega | cases hB
theorem am_ret_facts {z : Nat} (hz : am_zk z) : (am_rt z = 0 → am_ret z = none) ∧ (am_rt z = 1 → am_ret z = some .int) ∧ (am_rt z = 2 → am_ret z = some .boolean) ∧ (am_rt z = 3 → am_ret z = some .char) ∧ (am_rt z = 4 → am_ret z = some .float) ∧ (am_rt z = 5 → am_ret z = some .double) ∧ (am_rt z = 6 → ∃ n, am_ret z = some (.object n)) ∧ (am_rt z = 7 → am_ret z = some .long) := by
  obtain ⟨q, h⟩ := am_zw_ok z hz
  unfold am_zw at h
  simp only [Bool.and_eq_true] at h
  obtain ⟨-, hm⟩ := h
  refine ⟨fun e => ?_, fun e => ?_, fun e => ?_, fun e => ?_, fun e => ?_, fun e => ?_, fun e => ?_, fun e => ?_⟩ <;> rw [e] at hm <;> split at hm <;> simp_all
theorem am_le_refl (X : am_X) : am_le X X := ⟨Nat.le_refl _, Nat.le_refl _⟩
theorem am_le_trans {X Y Z : am_X} (h : am_le X Y) (h2 : am_le Y Z) : am_le X Z := ⟨Nat.le_trans h.1 h2.1, Nat.le_trans h.2 h2.2⟩
def am_nx (q : am_N) : am_X := match q with
  | .inl w => w.2.2.2.2
  | .inr r => r.2.2
/-- instructions at which a method may end -/
def am_isF : Instr → Bool := fun i => match i with
  | .return_ | .ireturn | .areturn | .freturn | .dreturn | .lreturn | .ldc_w _ | .newarray .long | .new _ | .invokevirtual _ | .invokestatic _ | .invokespecial _ => true
  | _ => false
theorem am_bk_i {α : Type} {w : α} {z pc : Nat} {ls : am_S} {st : List am_V} {r : Option am_R} {K : Nat → am_S → List am_V → am_M → am_X → Option α} {F : am_R → Option α} (h : am_bk z pc ls st r K F = some w) : (∃ v M X, r = some (.inl v, M, X) ∧ K (pc + 3) ls (v.toList ++ st) M X = some w) ∨ (∃ E M X, r = some (.inr E, M, X) ∧ am_hd z pc E = none ∧ am_tr z = true ∧ F (.inr E, M, X) = some w) ∨ (∃ E M X t j, r = some (.inr E, M, X) ∧ am_hd z pc E = some (t, j) ∧ K t (am_put ls j none) [] M X = some w) := by
  unfold am_bk at h
  split at h
  · cases h
  · exact Or.inl ⟨_, _, _, rfl, h⟩
  · split at h
    · rename_i hd
      obtain ⟨h1, h2⟩ := am_if_i h
      exact Or.inr (Or.inl ⟨_, _, _, rfl, hd, h1, h2⟩)
    · rename_i t j hd
      exact Or.inr (Or.inr ⟨_, _, _, t, j, rfl, hd, h⟩)
section AmLe
variable {call : Nat → List am_V → am_M → am_X → Option am_R} {z : Nat}
theorem am_bk_le {z pc : Nat} {ls : am_S} {st : List am_V} {r : Option am_R} {X : am_X} (hr : ∀ r0, r = some r0 → am_le X r0.2.2) {q : am_N} (h : am_bk z pc ls st r (fun a b c d e => some (.inl (a, b, c, d, e))) (fun r => some (.inr r)) = some q) : am_le X (am_nx q) := by
  rcases am_bk_i h with ⟨v, M, X', e, h⟩ | ⟨E, M, X', e, -, -, h⟩ | ⟨E, M, X', t, j, e, -, h⟩ <;> cases h <;> exact hr _ e
theorem am_inv_le {y kd pc : Nat} {ls : am_S} {st : List am_V} {M : am_M} {X : am_X} (hc : ∀ as M X r, call y as M X = some r → am_le X r.2.2) {q : am_N} (h : am_inv call z kd y pc ls st M X (fun a b c d e => some (.inl (a, b, c, d, e))) (fun r => some (.inr r)) = some q) : am_le X (am_nx q) := by
  unfold am_inv at h
  split at h
  · obtain ⟨_, _, _, _, _, h⟩ := am_popN_i h
    obtain ⟨_, _, _, h⟩ := am_popP_i h
    obtain ⟨_, h⟩ := am_sm_i h
    obtain ⟨_, _, h⟩ := am_chk_i h
    exact am_bk_le (fun r0 e => hc _ _ _ _ e) h
  · obtain ⟨_, _, _, _, _, h⟩ := am_popN_i h
    obtain ⟨_, h⟩ := am_sm_i h
    exact am_bk_le (fun r0 e => hc _ _ _ _ e) h
  · obtain ⟨_, _, _, h⟩ := am_popP_i h
    obtain ⟨_, h⟩ := am_sm_i h
    cases h; exact am_le_refl _
  · obtain ⟨_, _, _, h⟩ := am_popI_i h
    obtain ⟨_, _, _, h⟩ := am_popI_i h
    obtain ⟨_, h⟩ := am_sm_i h
    cases h; exact am_le_refl _
  · obtain ⟨_, _, _, h⟩ := am_popD_i h
    obtain ⟨_, h⟩ := am_sm_i h
    obtain ⟨_, h⟩ := am_if_i h
    cases h; exact am_le_refl _
  · obtain ⟨_, _, _, h⟩ := am_popF_i h
    obtain ⟨_, h⟩ := am_sm_i h
    obtain ⟨_, h⟩ := am_if_i h
    cases h; exact am_le_refl _
  · obtain ⟨_, _, _, h⟩ := am_popP_i h
    obtain ⟨_, h⟩ := am_sm_i h
    obtain ⟨_, h⟩ := am_if_i h
    rcases am_o2_i h with ⟨_, _, h⟩ | ⟨_, h⟩
    · cases h; exact am_le_refl _
    · cases h
  · obtain ⟨_, _, _, h⟩ := am_popI_i h
    obtain ⟨_, _, _, h⟩ := am_popP_i h
    obtain ⟨_, h⟩ := am_sm_i h
    obtain ⟨_, h⟩ := am_if_i h
    rcases am_o2_i h with ⟨_, _, h⟩ | ⟨_, h⟩
    · obtain ⟨_, h⟩ := am_if_i h
      cases h; exact am_le_refl _
    · cases h
  · obtain ⟨_, _, _, h⟩ := am_popI_i h
    obtain ⟨_, _, _, h⟩ := am_popI_i h
    obtain ⟨_, _, _, h⟩ := am_popP_i h
    obtain ⟨_, _, _, h⟩ := am_popI_i h
    obtain ⟨_, _, _, h⟩ := am_popP_i h
    obtain ⟨_, h⟩ := am_sm_i h
    obtain ⟨_, h⟩ := am_if_i h
    cases h; exact am_le_refl _
  · cases h
theorem am_bs_le {pc : Nat} {ls : am_S} {st : List am_V} {r : Option am_R} {n : Nat × Nat} {X Y : am_X} (hY : am_le X Y) (hr : ∀ r0, r = some r0 → am_le Y r0.2.2) {q : am_N} (h : am_bs pc ls st r n (fun a b c d e => some (.inl (a, b, c, d, e))) = some q) : am_le X (am_nx q) ∧ ∃ w, q = .inl w := by
  unfold am_bs at h
  split at h
  · cases h
    have h1 := am_le_trans hY (hr _ rfl)
    exact ⟨⟨Nat.le_trans h1.1 (Nat.le_add_right _ _), Nat.le_trans h1.2 (Nat.le_add_right _ _)⟩, _, rfl⟩
  · cases h
set_option maxHeartbeats 4000000 in
theorem am_st_nx (hc : ∀ y as M X r, call y as M X = some r → am_le X r.2.2) {i : Instr} {pc : Nat} {ls : am_S} {st : List am_V} {M : am_M} {X : am_X} {q : am_N} (h : am_st call z i pc ls st M X = some q) : am_le X (am_nx q) ∧ (am_isF i = false → ∃ w, q = .inl w) := by
  cases i
  case iload j =>
    simp only [am_st, am_ex] at h
    obtain ⟨_, _, h⟩ := am_get_i h
    obtain ⟨_, _, h⟩ := am_asI_i h
    cases h; exact ⟨am_le_refl _, fun _ => ⟨_, rfl⟩⟩
  case iload_n j =>
    simp only [am_st, am_ex] at h
    obtain ⟨_, _, h⟩ := am_get_i h
    obtain ⟨_, _, h⟩ := am_asI_i h
    cases h; exact ⟨am_le_refl _, fun _ => ⟨_, rfl⟩⟩
  case aload j =>
    simp only [am_st, am_ex] at h
    obtain ⟨_, _, h⟩ := am_get_i h
    obtain ⟨_, _, h⟩ := am_asP_i h
    cases h; exact ⟨am_le_refl _, fun _ => ⟨_, rfl⟩⟩
  case aload_n j =>
    simp only [am_st, am_ex] at h
    obtain ⟨_, _, h⟩ := am_get_i h
    obtain ⟨_, _, h⟩ := am_asP_i h
    cases h; exact ⟨am_le_refl _, fun _ => ⟨_, rfl⟩⟩
  case fload j =>
    simp only [am_st, am_ex] at h
    obtain ⟨_, _, h⟩ := am_get_i h
    obtain ⟨_, _, h⟩ := am_asF_i h
    cases h; exact ⟨am_le_refl _, fun _ => ⟨_, rfl⟩⟩
  case dload j =>
    simp only [am_st, am_ex] at h
    obtain ⟨_, _, h⟩ := am_get_i h
    obtain ⟨_, _, h⟩ := am_asD_i h
    cases h; exact ⟨am_le_refl _, fun _ => ⟨_, rfl⟩⟩
  case istore j =>
    simp only [am_st, am_ex] at h
    obtain ⟨_, _, _, h⟩ := am_popI_i h
    obtain ⟨_, h⟩ := am_if_i h
    cases h; exact ⟨am_le_refl _, fun _ => ⟨_, rfl⟩⟩
  case istore_n j =>
    simp only [am_st, am_ex] at h
    obtain ⟨_, _, _, h⟩ := am_popI_i h
    obtain ⟨_, h⟩ := am_if_i h
    cases h; exact ⟨am_le_refl _, fun _ => ⟨_, rfl⟩⟩
  case astore j =>
    simp only [am_st, am_ex] at h
    obtain ⟨_, _, _, h⟩ := am_popP_i h
    obtain ⟨_, h⟩ := am_if_i h
    cases h; exact ⟨am_le_refl _, fun _ => ⟨_, rfl⟩⟩
  case astore_n j =>
    simp only [am_st, am_ex] at h
    obtain ⟨_, _, _, h⟩ := am_popP_i h
    obtain ⟨_, h⟩ := am_if_i h
    cases h; exact ⟨am_le_refl _, fun _ => ⟨_, rfl⟩⟩
  case fstore j =>
    simp only [am_st, am_ex] at h
    obtain ⟨_, _, _, h⟩ := am_popF_i h
    obtain ⟨_, h⟩ := am_if_i h
    cases h; exact ⟨am_le_refl _, fun _ => ⟨_, rfl⟩⟩
  case dstore j =>
    simp only [am_st, am_ex] at h
    obtain ⟨_, _, _, h⟩ := am_popD_i h
    obtain ⟨_, h⟩ := am_if_i h
    cases h; exact ⟨am_le_refl _, fun _ => ⟨_, rfl⟩⟩
  case iinc j k =>
    simp only [am_st, am_ex] at h
    obtain ⟨_, _, h⟩ := am_get_i h
    obtain ⟨_, _, h⟩ := am_asI_i h
    cases h; exact ⟨am_le_refl _, fun _ => ⟨_, rfl⟩⟩
  case iconst j =>
    simp only [am_st, am_ex] at h
    cases h; exact ⟨am_le_refl _, fun _ => ⟨_, rfl⟩⟩
  case bipush j =>
    simp only [am_st, am_ex] at h
    cases h; exact ⟨am_le_refl _, fun _ => ⟨_, rfl⟩⟩
  case sipush j =>
    simp only [am_st, am_ex] at h
    cases h; exact ⟨am_le_refl _, fun _ => ⟨_, rfl⟩⟩
  case lconst j =>
    simp only [am_st, am_ex] at h
    cases h; exact ⟨am_le_refl _, fun _ => ⟨_, rfl⟩⟩
  case ldc j =>
    simp only [am_st, am_ex] at h
    rcases am_o2_i h with ⟨_, _, h⟩ | ⟨_, h⟩
    · cases h; exact ⟨am_le_refl _, fun _ => ⟨_, rfl⟩⟩
    · rcases am_o2_i h with ⟨_, _, h⟩ | ⟨_, h⟩
      · cases h; exact ⟨am_le_refl _, fun _ => ⟨_, rfl⟩⟩
      · cases h
  case ldc2_w j =>
    simp only [am_st, am_ex] at h
    rcases am_o2_i h with ⟨_, _, h⟩ | ⟨_, h⟩
    · cases h; exact ⟨am_le_refl _, fun _ => ⟨_, rfl⟩⟩
    · rcases am_o2_i h with ⟨_, _, h⟩ | ⟨_, h⟩
      · cases h; exact ⟨am_le_refl _, fun _ => ⟨_, rfl⟩⟩
      · cases h
  case ldc_w j =>
    simp only [am_st, am_ex] at h
    rcases am_o2_i h with ⟨_, _, h⟩ | ⟨_, h⟩
    · cases h; exact ⟨am_le_refl _, fun _ => ⟨_, rfl⟩⟩
    · rcases am_o2_i h with ⟨_, _, h⟩ | ⟨_, h⟩
      · unfold am_sc at h
        split at h
        · split at h
          · obtain ⟨_, h⟩ := am_if_i h
            obtain ⟨_, _, _, _, _, h⟩ := am_popN_i h
            obtain ⟨_, h⟩ := am_sm_i h
            obtain ⟨_, h⟩ := am_if_i h
            obtain ⟨h1, h2⟩ := am_bs_le (X := X) (Y := am_hx X _) ⟨Nat.le_refl _, Nat.le_refl _⟩ (fun r0 e => hc _ _ _ _ _ e) h
            exact ⟨h1, fun _ => h2⟩
          · cases h
        · cases h
      · cases h
  case lload j =>
    simp only [am_st, am_ex] at h
    obtain ⟨_, _, h⟩ := am_get_i h
    obtain ⟨_, _, h⟩ := am_asJ_i h
    cases h; exact ⟨am_le_refl _, fun _ => ⟨_, rfl⟩⟩
  case lload_n j =>
    simp only [am_st, am_ex] at h
    obtain ⟨_, _, h⟩ := am_get_i h
    obtain ⟨_, _, h⟩ := am_asJ_i h
    cases h; exact ⟨am_le_refl _, fun _ => ⟨_, rfl⟩⟩
  case lstore j =>
    simp only [am_st, am_ex] at h
    obtain ⟨_, _, _, h⟩ := am_popJ_i h
    obtain ⟨_, h⟩ := am_if_i h
    cases h; exact ⟨am_le_refl _, fun _ => ⟨_, rfl⟩⟩
  case lstore_n j =>
    simp only [am_st, am_ex] at h
    obtain ⟨_, _, _, h⟩ := am_popJ_i h
    obtain ⟨_, h⟩ := am_if_i h
    cases h; exact ⟨am_le_refl _, fun _ => ⟨_, rfl⟩⟩
  case ladd =>
    simp only [am_st, am_ex] at h
    obtain ⟨_, _, _, h⟩ := am_popJ_i h
    obtain ⟨_, _, _, h⟩ := am_popJ_i h
    cases h; exact ⟨am_le_refl _, fun _ => ⟨_, rfl⟩⟩
  case lmul =>
    simp only [am_st, am_ex] at h
    obtain ⟨_, _, _, h⟩ := am_popJ_i h
    obtain ⟨_, _, _, h⟩ := am_popJ_i h
    cases h; exact ⟨am_le_refl _, fun _ => ⟨_, rfl⟩⟩
  case ixor =>
    simp only [am_st, am_ex] at h
    obtain ⟨_, _, _, h⟩ := am_popI_i h
    obtain ⟨_, _, _, h⟩ := am_popI_i h
    cases h; exact ⟨am_le_refl _, fun _ => ⟨_, rfl⟩⟩
  case iadd =>
    simp only [am_st, am_ex] at h
    obtain ⟨_, _, _, h⟩ := am_popI_i h
    obtain ⟨_, _, _, h⟩ := am_popI_i h
    cases h; exact ⟨am_le_refl _, fun _ => ⟨_, rfl⟩⟩
  case isub =>
    simp only [am_st, am_ex] at h
    obtain ⟨_, _, _, h⟩ := am_popI_i h
    obtain ⟨_, _, _, h⟩ := am_popI_i h
    cases h; exact ⟨am_le_refl _, fun _ => ⟨_, rfl⟩⟩
  case imul =>
    simp only [am_st, am_ex] at h
    obtain ⟨_, _, _, h⟩ := am_popI_i h
    obtain ⟨_, _, _, h⟩ := am_popI_i h
    cases h; exact ⟨am_le_refl _, fun _ => ⟨_, rfl⟩⟩
  case iand =>
    simp only [am_st, am_ex] at h
    obtain ⟨_, _, _, h⟩ := am_popI_i h
    obtain ⟨_, _, _, h⟩ := am_popI_i h
    cases h; exact ⟨am_le_refl _, fun _ => ⟨_, rfl⟩⟩
  case ior =>
    simp only [am_st, am_ex] at h
    obtain ⟨_, _, _, h⟩ := am_popI_i h
    obtain ⟨_, _, _, h⟩ := am_popI_i h
    cases h; exact ⟨am_le_refl _, fun _ => ⟨_, rfl⟩⟩
  case ishl =>
    simp only [am_st, am_ex] at h
    obtain ⟨_, _, _, h⟩ := am_popI_i h
    obtain ⟨_, _, _, h⟩ := am_popI_i h
    cases h; exact ⟨am_le_refl _, fun _ => ⟨_, rfl⟩⟩
  case ishr =>
    simp only [am_st, am_ex] at h
    obtain ⟨_, _, _, h⟩ := am_popI_i h
    obtain ⟨_, _, _, h⟩ := am_popI_i h
    cases h; exact ⟨am_le_refl _, fun _ => ⟨_, rfl⟩⟩
  case idiv =>
    simp only [am_st, am_ex] at h
    obtain ⟨_, _, _, h⟩ := am_popI_i h
    obtain ⟨_, _, _, h⟩ := am_popI_i h
    obtain ⟨_, h⟩ := am_ifn_i h
    cases h; exact ⟨am_le_refl _, fun _ => ⟨_, rfl⟩⟩
  case irem =>
    simp only [am_st, am_ex] at h
    obtain ⟨_, _, _, h⟩ := am_popI_i h
    obtain ⟨_, _, _, h⟩ := am_popI_i h
    obtain ⟨_, h⟩ := am_ifn_i h
    cases h; exact ⟨am_le_refl _, fun _ => ⟨_, rfl⟩⟩
  case i2l =>
    simp only [am_st, am_ex] at h
    obtain ⟨_, _, _, h⟩ := am_popI_i h
    cases h; exact ⟨am_le_refl _, fun _ => ⟨_, rfl⟩⟩
  case i2c =>
    simp only [am_st, am_ex] at h
    obtain ⟨_, _, _, h⟩ := am_popI_i h
    cases h; exact ⟨am_le_refl _, fun _ => ⟨_, rfl⟩⟩
  case i2f =>
    simp only [am_st, am_ex] at h
    obtain ⟨_, _, _, h⟩ := am_popI_i h
    cases h; exact ⟨am_le_refl _, fun _ => ⟨_, rfl⟩⟩
  case i2d =>
    simp only [am_st, am_ex] at h
    obtain ⟨_, _, _, h⟩ := am_popI_i h
    cases h; exact ⟨am_le_refl _, fun _ => ⟨_, rfl⟩⟩
  case f2d =>
    simp only [am_st, am_ex] at h
    obtain ⟨_, _, _, h⟩ := am_popF_i h
    obtain ⟨_, h⟩ := am_if_i h
    cases h; exact ⟨am_le_refl _, fun _ => ⟨_, rfl⟩⟩
  case fdiv =>
    simp only [am_st, am_ex] at h
    obtain ⟨_, _, _, h⟩ := am_popF_i h
    obtain ⟨_, _, _, h⟩ := am_popF_i h
    obtain ⟨_, h⟩ := am_if_i h
    cases h; exact ⟨am_le_refl _, fun _ => ⟨_, rfl⟩⟩
  case ddiv =>
    simp only [am_st, am_ex] at h
    obtain ⟨_, _, _, h⟩ := am_popD_i h
    obtain ⟨_, _, _, h⟩ := am_popD_i h
    obtain ⟨_, h⟩ := am_if_i h
    cases h; exact ⟨am_le_refl _, fun _ => ⟨_, rfl⟩⟩
  case lcmp =>
    simp only [am_st, am_ex] at h
    obtain ⟨_, _, _, h⟩ := am_popJ_i h
    obtain ⟨_, _, _, h⟩ := am_popJ_i h
    cases h; exact ⟨am_le_refl _, fun _ => ⟨_, rfl⟩⟩
  case fcmp j =>
    simp only [am_st, am_ex] at h
    obtain ⟨_, _, _, h⟩ := am_popF_i h
    obtain ⟨_, _, _, h⟩ := am_popF_i h
    cases h; exact ⟨am_le_refl _, fun _ => ⟨_, rfl⟩⟩
  case dcmp j =>
    simp only [am_st, am_ex] at h
    obtain ⟨_, _, _, h⟩ := am_popD_i h
    obtain ⟨_, _, _, h⟩ := am_popD_i h
    cases h; exact ⟨am_le_refl _, fun _ => ⟨_, rfl⟩⟩
  case dup =>
    simp only [am_st, am_ex] at h
    obtain ⟨_, _, _, _, h⟩ := am_pop1_i h
    cases h; exact ⟨am_le_refl _, fun _ => ⟨_, rfl⟩⟩
  case pop =>
    simp only [am_st, am_ex] at h
    obtain ⟨_, _, _, _, h⟩ := am_pop1_i h
    cases h; exact ⟨am_le_refl _, fun _ => ⟨_, rfl⟩⟩
  case dup2 =>
    simp only [am_st, am_ex] at h
    obtain ⟨_, _, _, _, h⟩ := am_pop1_i h
    obtain ⟨_, _, _, _, h⟩ := am_pop1_i h
    cases h; exact ⟨am_le_refl _, fun _ => ⟨_, rfl⟩⟩
  case dup_x1 =>
    simp only [am_st, am_ex] at h
    obtain ⟨_, _, _, _, h⟩ := am_pop1_i h
    obtain ⟨_, _, _, _, h⟩ := am_pop1_i h
    cases h; exact ⟨am_le_refl _, fun _ => ⟨_, rfl⟩⟩
  case dup_x2 =>
    simp only [am_st, am_ex] at h
    obtain ⟨_, _, _, _, h⟩ := am_pop1_i h
    obtain ⟨_, _, _, _, h⟩ := am_pop1_i h
    obtain ⟨_, _, _, _, h⟩ := am_pop1_i h
    cases h; exact ⟨am_le_refl _, fun _ => ⟨_, rfl⟩⟩
  case goto j =>
    simp only [am_st, am_ex] at h
    obtain ⟨_, _, h⟩ := am_j_i h
    cases h; exact ⟨am_le_refl _, fun _ => ⟨_, rfl⟩⟩
  case ifCond a b =>
    cases a <;> simp only [am_st, am_ex] at h
    all_goals (obtain ⟨_, _, _, h⟩ := am_popI_i h)
    all_goals (obtain ⟨_, _, h⟩ := am_j_i h)
    all_goals (split at h)
    all_goals (cases h; exact ⟨am_le_refl _, fun _ => ⟨_, rfl⟩⟩)
  case if_icmp a b =>
    cases a <;> simp only [am_st, am_ex] at h
    all_goals (obtain ⟨_, _, _, h⟩ := am_popI_i h)
    all_goals (obtain ⟨_, _, _, h⟩ := am_popI_i h)
    all_goals (obtain ⟨_, _, h⟩ := am_j_i h)
    all_goals (split at h)
    all_goals (cases h; exact ⟨am_le_refl _, fun _ => ⟨_, rfl⟩⟩)
  case tableswitch a b d f =>
    simp only [am_st, am_ex] at h
    obtain ⟨_, _, _, h⟩ := am_popI_i h
    split at h
    · obtain ⟨_, _, h⟩ := am_j_i h
      cases h; exact ⟨am_le_refl _, fun _ => ⟨_, rfl⟩⟩
    · split at h
      · obtain ⟨_, _, h⟩ := am_j_i h
        cases h; exact ⟨am_le_refl _, fun _ => ⟨_, rfl⟩⟩
      · cases h
  case lookupswitch a b =>
    simp only [am_st, am_ex] at h
    obtain ⟨_, _, _, h⟩ := am_popI_i h
    obtain ⟨_, h⟩ := am_if_i h
    obtain ⟨_, _, h⟩ := am_j_i h
    cases h; exact ⟨am_le_refl _, fun _ => ⟨_, rfl⟩⟩
  case getfield j =>
    simp only [am_st, am_ex] at h
    split at h
    · cases h
    · obtain ⟨_, _, _, h⟩ := am_popP_i h
      obtain ⟨_, _, h⟩ := am_chk_i h
      split at h
      · cases h; exact ⟨am_le_refl _, fun _ => ⟨_, rfl⟩⟩
      · cases h; exact ⟨am_le_refl _, fun _ => ⟨_, rfl⟩⟩
  case putfield j =>
    simp only [am_st, am_ex] at h
    split at h
    · cases h
    · obtain ⟨_, h⟩ := am_ifn_i h
      split at h
      · obtain ⟨_, _, _, h⟩ := am_popP_i h
        obtain ⟨_, _, _, h⟩ := am_popP_i h
        obtain ⟨_, _, h⟩ := am_chk_i h
        obtain ⟨_, h⟩ := am_if_i h
        cases h; exact ⟨am_le_refl _, fun _ => ⟨_, rfl⟩⟩
      · obtain ⟨_, _, _, h⟩ := am_popI_i h
        obtain ⟨_, _, _, h⟩ := am_popP_i h
        obtain ⟨_, _, h⟩ := am_chk_i h
        obtain ⟨_, h⟩ := am_if_i h
        cases h; exact ⟨am_le_refl _, fun _ => ⟨_, rfl⟩⟩
  case iaload =>
    simp only [am_st, am_ex] at h
    obtain ⟨_, _, _, h⟩ := am_popI_i h
    obtain ⟨_, _, _, h⟩ := am_popP_i h
    split at h
    · obtain ⟨_, h⟩ := am_if_i h
      cases h; exact ⟨am_le_refl _, fun _ => ⟨_, rfl⟩⟩
    · obtain ⟨_, _, _, h⟩ := am_arr_i h
      cases h; exact ⟨am_le_refl _, fun _ => ⟨_, rfl⟩⟩
  case iastore =>
    simp only [am_st, am_ex] at h
    obtain ⟨_, _, _, h⟩ := am_popI_i h
    obtain ⟨_, _, _, h⟩ := am_popI_i h
    obtain ⟨_, _, _, h⟩ := am_popP_i h
    obtain ⟨_, _, _, h⟩ := am_arr_i h
    cases h; exact ⟨am_le_refl _, fun _ => ⟨_, rfl⟩⟩
  case caload =>
    simp only [am_st, am_ex] at h
    obtain ⟨_, _, _, h⟩ := am_popI_i h
    obtain ⟨_, _, _, h⟩ := am_popP_i h
    obtain ⟨_, _, _, h⟩ := am_arr_i h
    cases h; exact ⟨am_le_refl _, fun _ => ⟨_, rfl⟩⟩
  case castore =>
    simp only [am_st, am_ex] at h
    obtain ⟨_, _, _, h⟩ := am_popI_i h
    obtain ⟨_, _, _, h⟩ := am_popI_i h
    obtain ⟨_, _, _, h⟩ := am_popP_i h
    obtain ⟨_, _, _, h⟩ := am_arr_i h
    cases h; exact ⟨am_le_refl _, fun _ => ⟨_, rfl⟩⟩
  case aaload =>
    simp only [am_st, am_ex] at h
    obtain ⟨_, _, _, h⟩ := am_popI_i h
    obtain ⟨_, _, _, h⟩ := am_popP_i h
    obtain ⟨_, _, _, h⟩ := am_arr_i h
    cases h; exact ⟨am_le_refl _, fun _ => ⟨_, rfl⟩⟩
  case aastore =>
    simp only [am_st, am_ex] at h
    obtain ⟨_, _, _, h⟩ := am_popP_i h
    obtain ⟨_, _, _, h⟩ := am_popI_i h
    obtain ⟨_, _, _, h⟩ := am_popP_i h
    obtain ⟨_, _, _, h⟩ := am_arr_i h
    obtain ⟨_, _, h⟩ := am_chk_i h
    cases h; exact ⟨am_le_refl _, fun _ => ⟨_, rfl⟩⟩
  case laload =>
    simp only [am_st, am_ex] at h
    obtain ⟨_, _, _, h⟩ := am_popI_i h
    obtain ⟨_, _, _, h⟩ := am_popP_i h
    obtain ⟨_, h⟩ := am_if_i h
    rcases am_o2_i h with ⟨_, _, h⟩ | ⟨_, h⟩
    · cases h; exact ⟨am_le_refl _, fun _ => ⟨_, rfl⟩⟩
    · cases h
  case lastore =>
    simp only [am_st, am_ex] at h
    obtain ⟨_, _, _, h⟩ := am_popJ_i h
    obtain ⟨_, _, _, h⟩ := am_popI_i h
    obtain ⟨_, _, _, h⟩ := am_popP_i h
    obtain ⟨_, h⟩ := am_if_i h
    rcases am_o2_i h with ⟨_, _, h⟩ | ⟨_, h⟩
    · cases h; exact ⟨am_le_refl _, fun _ => ⟨_, rfl⟩⟩
    · cases h
  case arraylength =>
    simp only [am_st, am_ex] at h
    obtain ⟨_, _, _, h⟩ := am_popP_i h
    obtain ⟨_, h⟩ := am_if_i h
    cases h; exact ⟨am_le_refl _, fun _ => ⟨_, rfl⟩⟩
  case invokevirtual j =>
    simp only [am_st, am_ex] at h
    split at h
    · exact ⟨am_inv_le (fun _ _ _ _ e => hc _ _ _ _ _ e) h, fun e => by cases e⟩
    · exact ⟨am_inv_le (fun _ _ _ _ e => hc _ _ _ _ _ e) h, fun e => by cases e⟩
    · exact ⟨am_inv_le (fun _ _ _ _ e => hc _ _ _ _ _ e) h, fun e => by cases e⟩
    · cases h
  case invokestatic j =>
    simp only [am_st, am_ex] at h
    split at h
    · exact ⟨am_inv_le (fun _ _ _ _ e => hc _ _ _ _ _ e) h, fun e => by cases e⟩
    · exact ⟨am_inv_le (fun _ _ _ _ e => hc _ _ _ _ _ e) h, fun e => by cases e⟩
    · exact ⟨am_inv_le (fun _ _ _ _ e => hc _ _ _ _ _ e) h, fun e => by cases e⟩
    · exact ⟨am_inv_le (fun _ _ _ _ e => hc _ _ _ _ _ e) h, fun e => by cases e⟩
    · exact ⟨am_inv_le (fun _ _ _ _ e => hc _ _ _ _ _ e) h, fun e => by cases e⟩
    · exact ⟨am_inv_le (fun _ _ _ _ e => hc _ _ _ _ _ e) h, fun e => by cases e⟩
    · cases h
  case invokespecial j =>
    simp only [am_st, am_ex] at h
    split at h
    · exact ⟨am_inv_le (fun _ _ _ _ e => hc _ _ _ _ _ e) h, fun e => by cases e⟩
    · exact ⟨am_inv_le (fun _ _ _ _ e => hc _ _ _ _ _ e) h, fun e => by cases e⟩
    · exact ⟨am_inv_le (fun _ _ _ _ e => hc _ _ _ _ _ e) h, fun e => by cases e⟩
    · cases h
  case new j =>
    simp only [am_st, am_ex] at h
    split at h
    · split at h
      · cases h; exact ⟨am_le_refl _, fun e => by cases e⟩
      · obtain ⟨_, _, _, _, _, _, _, h⟩ := am_nu_i h
        cases h; exact ⟨⟨Nat.le_succ _, Nat.le_add_right _ _⟩, fun e => by cases e⟩
    · obtain ⟨_, h⟩ := am_if_i h
      obtain ⟨_, h⟩ := am_sm_i h
      cases h; exact ⟨⟨Nat.le_succ _, Nat.le_add_right _ _⟩, fun e => by cases e⟩
    · unfold am_ca at h
      obtain ⟨_, h⟩ := am_if_i h
      obtain ⟨_, _, h⟩ := am_get_i h
      obtain ⟨_, _, h⟩ := am_asI_i h
      obtain ⟨_, _, _, h⟩ := am_popP_i h
      obtain ⟨_, h⟩ := am_sm_i h
      obtain ⟨_, h⟩ := am_if_i h
      exact ⟨(am_bs_le (X := X) (Y := am_hx X _) ⟨Nat.le_refl _, Nat.le_refl _⟩ (fun r0 e => hc _ _ _ _ _ e) h).1, fun e => by cases e⟩
  case newarray t =>
    cases t
    case int =>
      simp only [am_st, am_ex] at h
      obtain ⟨_, _, _, h⟩ := am_popI_i h
      obtain ⟨_, h⟩ := am_ifn_i h
      obtain ⟨_, _, _, _, _, _, _, h⟩ := am_nu_i h
      cases h; exact ⟨⟨Nat.le_succ _, Nat.le_add_right _ _⟩, fun _ => ⟨_, rfl⟩⟩
    case char =>
      simp only [am_st, am_ex] at h
      obtain ⟨_, _, _, h⟩ := am_popI_i h
      obtain ⟨_, h⟩ := am_ifn_i h
      obtain ⟨_, _, _, _, _, _, _, h⟩ := am_nu_i h
      cases h; exact ⟨⟨Nat.le_succ _, Nat.le_add_right _ _⟩, fun _ => ⟨_, rfl⟩⟩
    case long =>
      simp only [am_st, am_ex] at h
      obtain ⟨_, _, _, h⟩ := am_popI_i h
      obtain ⟨_, h⟩ := am_if_i h
      cases h; exact ⟨⟨Nat.le_succ _, Nat.le_add_right _ _⟩, fun _ => ⟨_, rfl⟩⟩
    all_goals exact nomatch (show (none : Option am_N) = some q from h)
  case anewarray j =>
    simp only [am_st, am_ex] at h
    split at h
    · obtain ⟨_, _, _, h⟩ := am_popI_i h
      obtain ⟨_, h⟩ := am_ifn_i h
      obtain ⟨_, _, _, _, _, _, _, h⟩ := am_nu_i h
      cases h; exact ⟨⟨Nat.le_succ _, Nat.le_add_right _ _⟩, fun _ => ⟨_, rfl⟩⟩
    · cases h
  case return_ =>
    simp only [am_st, am_ex] at h
    split at h
    · cases h; exact ⟨am_le_refl _, fun e => by cases e⟩
    · cases h
  case ireturn =>
    simp only [am_st, am_ex] at h
    split at h
    · cases h; exact ⟨am_le_refl _, fun e => by cases e⟩
    · obtain ⟨_, h⟩ := am_if_i h
      cases h; exact ⟨am_le_refl _, fun e => by cases e⟩
    · obtain ⟨_, h⟩ := am_if_i h
      cases h; exact ⟨am_le_refl _, fun e => by cases e⟩
    · cases h
  case lreturn =>
    simp only [am_st, am_ex] at h
    split at h
    · cases h; exact ⟨am_le_refl _, fun e => by cases e⟩
    · cases h
  case areturn =>
    simp only [am_st, am_ex] at h
    split at h
    · cases h; exact ⟨am_le_refl _, fun e => by cases e⟩
    · cases h
  case freturn =>
    simp only [am_st, am_ex] at h
    split at h
    · cases h; exact ⟨am_le_refl _, fun e => by cases e⟩
    · cases h
  case dreturn =>
    simp only [am_st, am_ex] at h
    split at h
    · cases h; exact ⟨am_le_refl _, fun e => by cases e⟩
    · cases h
  all_goals exact nomatch (show (none : Option am_N) = some q from h)
theorem am_ldcw_nx {ix pc : Nat} {ls : am_S} {st : List am_V} {M : am_M} {X : am_X} {q : am_N} (h : am_st call z (.ldc_w ix) pc ls st M X = some q) : ∃ w, q = .inl w := by
  simp only [am_st, am_ex] at h
  rcases am_o2_i h with ⟨_, _, h⟩ | ⟨_, h⟩
  · cases h; exact ⟨_, rfl⟩
  · rcases am_o2_i h with ⟨_, _, h⟩ | ⟨_, h⟩
    · unfold am_sc at h
      split at h
      · split at h
        · obtain ⟨_, h⟩ := am_if_i h
          obtain ⟨_, _, _, _, _, h⟩ := am_popN_i h
          obtain ⟨_, h⟩ := am_sm_i h
          obtain ⟨_, h⟩ := am_if_i h
          unfold am_bs at h
          split at h
          · cases h; exact ⟨_, rfl⟩
          · cases h
        · cases h
      · cases h
    · cases h
theorem am_run_le (hc : ∀ y as M X r, call y as M X = some r → am_le X r.2.2) : ∀ (n pc : Nat) (ls : am_S) (st : List am_V) (M : am_M) (X : am_X) (r : am_R), am_run call z n pc ls st M X = some r → am_le X r.2.2
  | 0, _, _, _, _, _, _, h => by cases h
  | n + 1, pc, ls, st, M, X, r, h => by
    unfold am_run at h
    cases hcd : am_cd z pc with
    | none => rw [hcd] at h; cases h
    | some i =>
      rw [hcd] at h
      dsimp only at h
      rw [am_ex_st] at h
      cases hs : am_st call z i pc ls st M X with
      | none => rw [hs] at h; cases h
      | some q =>
        rw [hs] at h
        have h1 := (am_st_nx hc hs).1
        cases q with
        | inl c =>
          obtain ⟨a, b, c, d, e⟩ := c
          exact am_le_trans h1 (am_run_le hc n a b c d e r h)
        | inr r' =>
          cases h
          exact h1
end AmLe
theorem am_ev_le : ∀ (d z : Nat) (as : List am_V) (M : am_M) (X : am_X) (r : am_R), am_ev d z as M X = some r → am_le X r.2.2
  | 0, _, _, _, _, _, h => by cases h
  | d + 1, z, as, M, X, r, h => by
    rw [am_ev_eq, am_rn_iff] at h
    obtain ⟨n, h⟩ := h
    exact am_run_le (fun y as M X r => am_ev_le d y as M X r) n _ _ _ _ _ _ h
theorem am_dg0 {z pc : Nat} {i : Instr} (h : am_cd z pc = some i) : ∃ n, decode (am_by z) pc = .ok (i, n) ∧ (am_ln i = 0 ∨ am_ln i = n) := by
  have key : ∀ t : List (Nat × Instr), am_fi t pc = some i → (pc, i) ∈ t := by
    intro t
    induction t with
    | nil => intro h; cases h
    | cons q t ih =>
      intro h
      unfold am_fi at h
      split at h
      · rename_i e
        cases h
        subst e
        exact List.mem_cons_self
      · exact List.mem_cons_of_mem _ (ih h)
  have h1 := List.all_eq_true.mp (am_dk z) _ (key _ h)
  unfold am_dok at h1
  split at h1
  · rename_i j n hd
    simp only [Bool.and_eq_true, Bool.or_eq_true, decide_eq_true_eq, beq_iff_eq] at h1
    obtain ⟨e, h2⟩ := h1
    subst e
    exact ⟨n, hd, h2⟩
  · cases h1
theorem am_dg {z pc k : Nat} {i : Instr} (h : am_cd z pc = some i) (hk : am_ln i = k) (h0 : k ≠ 0) : decode (am_by z) pc = .ok (i, k) := by
  obtain ⟨n, h1, h2⟩ := am_dg0 h
  rcases h2 with h2 | h2
  · exact absurd (hk.symm.trans h2) h0
  · rw [h1, ← h2, hk]
/-! what a call says -/
def am_Nc (G : am_Γ) (U : State) : Prop := (∀ q ∈ am_ncs, va_Nc (am_en q.1) (am_en q.2) U) ∧ am_Sg G U U.heap ∧ am_Js G U U.heap ∧ am_Sl U
def am_Pc (G : am_Γ) (M : am_M) (X : am_X) (as : List am_V) : Array Value → State → Prop := fun a U => a = (as.map (am_tv G)).toArray ∧ am_HR G M X U.heap ∧ va_K G.2.2.1 am_cl (am_tys G) U ∧ vx_Zq Bundle.tN "UNASSIGNED_STACK" Bundle.steD (am_A G) U U.heap ∧ vx_Zq Bundle.tN "SUPPRESSED_SENTINEL" Bundle.listD (am_A G) U U.heap ∧ va_X G.2.1 G.2.2.2.2.1 G.2.2.2.2.2.1 U U.heap ∧ (G.2.1 < am_b0 G ∧ am_b0 G ≤ U.heap.size ∧ G.2.2.2.2.1 ≤ 2048 ∧ am_b0 G ≤ G.1) ∧ am_Nc G U
def am_Qr (G : am_Γ) (r : am_R) : Array Value → State → Outcome → State → Prop := fun _ st o t => ∃ v, r.1 = .inl v ∧ o = .returned (v.map (am_tv G)) ∧ am_HR G r.2.1 r.2.2 t.heap ∧ va_F (am_A G) st t
def am_XCr (G : am_Γ) (r : am_R) : String → State → State → Prop := fun E' st t => ∃ E, r.1 = .inr E ∧ E' = am_en E ∧ am_HR G r.2.1 r.2.2 t.heap ∧ va_F (am_A G) st t
abbrev am_dc (X : am_X) (r : am_R) : Nat := r.2.2.2.2.1 - X.2.2.1
abbrev am_ds (X : am_X) (r : am_R) : Nat := r.2.2.2.2.2.1 - X.2.2.2.1
def am_rm (d mc ms : Nat) : Room := { frames := d + 26, cells := mc, slots := ms, locals := 31 * d + 720 }
def am_ws (z : Nat) : List Cond := am_cw z :: am_W
def am_Con (l : Launch) (d z : Nat) (as : List am_V) (M : am_M) (X : am_X) (r : am_R) : Prop := ∀ G : am_Γ, vx_Met l (am_y z) (am_ws z) (am_rm d (am_dc X r) (am_ds X r)) (am_Pc G M X as) (am_Qr G r) (am_XCr G r) (am_dc X r) (am_ds X r) (am_A G)
theorem am_blind {G : am_Γ} {M : am_M} {X : am_X} {as : List am_V} : FrameBlind (am_Pc G M X as) := by
  intro a U g mk h
  obtain ⟨h1, h2, h3, h4, h5, h6, h7, h8⟩ := h
  exact ⟨h1, h2, va_K.moved (u := U) (U := U.calling g mk a) (Vm.Alike.refl U.vm) h3, vx_Zq.moved (u := U) (U := U.calling g mk a) (Vm.Alike.refl U.vm) h4, vx_Zq.moved (u := U) (U := U.calling g mk a) (Vm.Alike.refl U.vm) h5, va_X.moved (u := U) (U := U.calling g mk a) (Vm.Alike.refl U.vm) h6, h7, fun q hq => va_Nc.moved (u := U) (U := U.calling g mk a) (Vm.Alike.refl U.vm) (h8.1 q hq), am_Sg.same (u := U) rfl h8.2.1, am_Js.moved (u := U) (U := U.calling g mk a) (Vm.Alike.refl U.vm) h8.2.2.1, am_Sl.same (u := U) rfl h8.2.2.2⟩
theorem am_named {y : Nat} (hy : am_zk y) {args : Array Value} {s : State} (hts : ∀ w ∈ am_W, w.before args s = true) : ∃ (mk : MethodId) (methM : Method), s.methodNamed? (am_y y) = some mk ∧ s.vm.method? mk = some methM ∧ parseMethodDescriptor (am_y y).desc = some methM.sig := by
  have f1 := hts _ (am_z_facts hy).1
  unfold am_cw at f1
  split at f1
  · obtain ⟨mk, hn⟩ := Cond.code_named f1
    obtain ⟨methM, cM, h1, -, -, -, -, -, -, h2⟩ := Cond.code_spec hn f1
    exact ⟨mk, methM, hn, h1, h2⟩
  · obtain ⟨mk, methM, cM, hn, h1, -, -, -, -, -, -, h2⟩ := Cond.codeWith_spec f1
    exact ⟨mk, methM, hn, h1, h2⟩
theorem am_ini_ret : ∀ y, y < 232 → am_ks y = 2 → am_ret y = none := by decide +kernel
theorem am_hj_ok : (List.range 232).all (fun z => (am_hs z).all (fun h => decide (h.2.2.2.2 < am_mL z))) = true := by decide +kernel
theorem am_hj {z : Nat} (hz : z < 232) : ∀ h ∈ am_hs z, h.2.2.2.2 < am_mL z := fun h hh => of_decide_eq_true (List.all_eq_true.mp (List.all_eq_true.mp am_hj_ok z (List.mem_range.mpr hz)) h hh)
theorem am_cat {G : am_Γ} (st : List am_V) (h : st.length ≤ 4) : ((st.map (am_tv G)).map fun v => v.category).sum ≤ 8 := by
  have key : ∀ st : List am_V, ((st.map (am_tv G)).map fun v => v.category).sum ≤ 2 * st.length := by
    intro st
    induction st with
    | nil => simp
    | cons v r ih =>
      simp only [List.map_cons, List.sum_cons, List.length_cons]
      have : (am_tv G v).category ≤ 2 := by cases am_tv G v <;> simp [Value.category]
      omega
  have := key st
  omega
end
section
/-! CALLS ARE KEPT -/
section AmCalls
variable {p : Program} {l : Launch} {e : Env} {R : Room} {s : State} {m : MethodId} {args : Array Value} {below : List Frame} {meth : Method} {c : Code} {Q : State → Prop} {G : am_Γ} {z : Nat} {X0 : am_X} {call : Nat → List am_V → am_M → am_X → Option am_R} {pc : Nat} {ls : am_S} {st : List am_V} {M : am_M} {X : am_X} {H : Heap} {locs : List Loc} {cells slots : Nat} {lsc : Array Slot}
set_option maxRecDepth 8000 in
theorem am_back {d y : Nat} {as : List am_V} {r : am_R} (hcon : am_Con l d y as M X r) (hy : am_zk y) (hts : ∀ w ∈ am_W, w.before args s = true) (hfr : d + 27 ≤ R.frames) (hlo : 31 * d + 751 ≤ R.locals) : vx_Back l R p e below s args (am_y y) 3 8 (PreOf R (am_dc X r) (am_ds X r) (am_Pc G M X as)) (PostOf (am_Qr G r) (am_dc X r) (am_ds X r) (am_A G)) (vx_Post (am_XCr G r) (am_dc X r) (am_ds X r) (am_A G)) := by
  obtain ⟨f1, -, f3, -, -, -, f7, -, f9, -⟩ := am_z_facts hy
  have hws : ∀ w ∈ am_ws y, ∀ (a' : Array Value) (U : State), s.WarmedH U.vm → w.before a' U = true := by
    intro w hw a' U hW
    have hw2 : w ∈ am_W := by
      rcases List.mem_cons.mp hw with e | h
      · rw [e]; exact f1
      · exact h
    exact am_W_warm hW hw2 (hts w hw2)
  have hini : ∀ (a' : Array Value) (U : State), s.WarmedH U.vm → (Cond.initialized (am_y y).cls).before a' U = true := by
    intro a' U hW
    rw [f3]
    exact am_W_warm hW (am_init_w f7) (hts _ (am_init_w f7))
  have hmem : am_cw y ∈ am_ws y := List.mem_cons_self
  by_cases ht : am_tr y = true
  · rw [show am_cw y = .code (am_y y) (am_by y) (am_mL y) (am_ret y) from if_pos ht] at hmem
    exact vx_back (hcon G) am_blind rfl rfl (by show d + 26 + 1 ≤ _; omega) (by show 8 + (am_mL y + 11) + (31 * d + 720) ≤ _; omega) hws hmem hini
  · rw [show am_cw y = .codeWith (am_y y) (am_by y) (am_mL y) (am_ret y) (am_hh y) from if_neg ht] at hmem
    exact vx_backW (hcon G) am_blind rfl rfl (by show d + 26 + 1 ≤ _; omega) (by show 8 + (am_mL y + 11) + (31 * d + 720) ≤ _; omega) hws hmem hini
/-- a call, from what its contract says and the machine's first step -/
theorem am_runK {yn : MethodName} {mc ms : Nat} {Pc : Array Value → State → Prop} {Qc : Array Value → State → Outcome → State → Prop} {XC : String → State → State → Prop} {free : Addr → Prop} {g : JFrame} {rest : List Value} {a : Array Value} {ig : Instr} {mk : MethodId}
    (hK : vx_Back l R p e below s args yn 3 8 (PreOf R mc ms Pc) (PostOf Qc mc ms free) (vx_Post XC mc ms free)) (hg : g.method = m) (hsize : g.locals.size = c.maxLocals) (hdg : decode c.code g.pc = .ok (ig, 3)) (hW : 2 * g.monitorRoom + (rest.map fun v => v.category).sum ≤ 8) (hf : cells + mc ≤ R.cells ∧ slots + ms ≤ R.slots) (hnamed : s.methodNamed? yn = some mk)
    (hX : ∀ T : State, T.heap = H → Stand p l e R s m args below meth c T locs cells slots → ∃ vm₁ : Vm, Stand p l e R s m args below meth c (T.setVm vm₁) locs cells slots ∧ ∀ target, (∀ acts, Steps p.tables e below (doInvoke e ((T.setVm vm₁).setTop { g with stack := rest }) acts mk a).1 target) → Steps p.tables e below (T.setTop g) target)
    (hPc : ∀ U : State, U.heap = H → s.WarmedH U.vm → Pc a U) : vx_Run p l e R s m args below meth c H locs cells slots mc ms g rest (Qc a) XC free := by
  intro T hT Y
  obtain ⟨vm₁, X₁, hstep₁⟩ := hX T hT Y
  rcases hK m meth c ⟨T.setVm vm₁, locs, cells, slots⟩ { g with stack := rest } ig mk a X₁ hg hsize hdg hW (X₁.named hnamed) ⟨hf.1, hf.2, hPc (T.setVm vm₁) hT X₁.warmed⟩ with ⟨v, ⟨U', l2, c2, s2⟩, X', ⟨g', mk', t, L, e1, e2, hq, h1, hL, h2, h3⟩, st⟩ | ⟨q, ⟨U', l2, c2, s2⟩, X', ⟨g', mk', t, L, E, ce, e1, e2, hq, hce, hcv, hcl, h1, hL, h2, h3⟩, st⟩
  · dsimp only [Pt.U, Pt.locs, Pt.cells, Pt.slots] at X' e1 e2 h1 h2 h3 st
    subst h1; subst h2; subst h3
    exact Or.inl ⟨v, (T.setVm vm₁).calling g' mk' a, t, U', L, hT, X', hL, e1, e2, hq, fun target h => hstep₁ _ fun acts => by rw [doInvoke_state]; exact st.trans h⟩
  · dsimp only [Pt.U, Pt.locs, Pt.cells, Pt.slots] at X' e1 e2 h1 h2 h3 st hcl
    subst h1; subst h2; subst h3
    exact Or.inr ⟨q, (T.setVm vm₁).calling g' mk' a, t, U', L, E, ce, hT, X', hL, e1, e2, hq, hce, hcv, vx_cls X₁.warmed hcl, hstep₁ _ fun acts => by rw [doInvoke_state]; exact st⟩
theorem am_pre (C : am_Cx p l s m args meth c G z) (hnc : am_Nc G s) (hH : am_HR G M X H) (hS : va_S (am_A G) s.heap H locs) {as : List am_V} : ∀ U : State, U.heap = H → s.WarmedH U.vm → am_Pc G M X as (as.map (am_tv G)).toArray U := by
  obtain ⟨hx, hb, hml, hown, hts, hK, hU, hN, hX, hbb, hlk, hst, hini⟩ := C
  intro U hU0 hW
  exact ⟨rfl, by rw [hU0]; exact hH, va_K.moved hW.alike hK, by rw [hU0]; exact vx_Zq.moved hW.alike (hU.kept hS.2.1), by rw [hU0]; exact vx_Zq.moved hW.alike (hN.kept hS.2.1), by rw [hU0]; exact va_X.moved hW.alike (hX.kept (hS.2.1 _ (by omega) (by show ¬ am_b0 G ≤ G.2.1; omega))), ⟨hbb.1, by rw [hU0]; exact Nat.le_trans hbb.2.1 hS.1, hbb.2.2⟩, fun q hq => va_Nc.moved hW.alike (hnc.1 q hq), (by rw [hU0]; exact (hnc.2.1.kept (fun q hq => hS.2.1 q (by omega) (by show ¬ am_b0 G ≤ q; omega))).warm hW), (by rw [hU0]; exact am_Js.moved hW.alike (hnc.2.2.1.kept hS.2.1)), hnc.2.2.2.warm hW⟩
theorem am_len {y : Nat} {vs : List am_V} (hy : am_zk y) (hlen : vs.length = am_na y) : ∀ sig, parseMethodDescriptor (am_y y).desc = some sig → (vs.reverse.map (am_tv G)).length = sig.parameters.length := by
  intro sig h
  have f5 := (am_z_facts hy).2.2.2.2.1
  rw [h] at f5
  rw [List.length_map, List.length_reverse, hlen]
  exact (Option.some.inj f5).symm
theorem am_stk {vs rest : List am_V} {l0 : am_L} (hl0 : l0.1 ≠ 0) : (vs ++ .inr (some l0) :: rest).map (am_tv G) = (vs.reverse.map (am_tv G)).reverse ++ .ref (am_adr G l0) :: rest.map (am_tv G) := by
  rw [List.map_append, List.map_cons, ← List.map_reverse, List.reverse_reverse, show am_tv G (.inr (some l0)) = .ref (am_adr G l0) from am_rv_ref hl0]
theorem am_stk0 {vs rest : List am_V} : (vs ++ rest).map (am_tv G) = (vs.reverse.map (am_tv G)).reverse ++ rest.map (am_tv G) := by
  rw [List.map_append, ← List.map_reverse, List.reverse_reverse]
theorem am_arg {as : List am_V} {l0 : am_L} (hl0 : l0.1 ≠ 0) : ((.inr (some l0) :: as : List am_V).map (am_tv G)).toArray = (Value.ref (am_adr G l0) :: as.map (am_tv G)).toArray := by
  rw [List.map_cons, show am_tv G (.inr (some l0)) = .ref (am_adr G l0) from am_rv_ref hl0]
theorem am_run_v {d ix y : Nat} {vs rest : List am_V} {l0 : am_L} {r : am_R} (C : am_Cx p l s m args meth c G z) (hnc : am_Nc G s) (hm : am_ml (am_own z) ix = some (0, y)) (dg : decode (am_by z) pc = .ok (.invokevirtual ix, 3)) (hlen : vs.length = am_na y) (h4 : rest.length ≤ 4) (hal : am_al X.2.1 l0 = true) (hkd : am_kd l0 = (0, am_own y, 0)) (hcon : am_Con l d y (.inr (some l0) :: vs.reverse) M X r) (hfr : d + 27 ≤ R.frames) (hlo : 31 * d + 751 ≤ R.locals) (hH : am_HR G M X H) (hS : va_S (am_A G) s.heap H locs) (hsz : lsc.size = am_mL z) (hf : cells + am_dc X r ≤ R.cells ∧ slots + am_ds X r ≤ R.slots) :
    vx_Run p l e R s m args below meth c H locs cells slots (am_dc X r) (am_ds X r) (F0 m pc lsc ((vs ++ .inr (some l0) :: rest).map (am_tv G))) (rest.map (am_tv G)) (am_Qr G r ((.inr (some l0) :: vs.reverse : List am_V).map (am_tv G)).toArray) (am_XCr G r) (am_A G) := by
  obtain ⟨i, hi⟩ := am_al2_in am_ml_ok _ (am_look_in hm)
  simp only [am_mlw, Bool.and_eq_true, decide_eq_true_eq, beq_iff_eq] at hi
  obtain ⟨-, ⟨⟨hlk0, hks⟩, hy⟩, htr⟩ := hi
  have hpre := am_pre C hnc hH hS (as := .inr (some l0) :: vs.reverse)
  have hl0 := am_kd_ne hkd (by decide)
  have hci := am_kd_ci hkd
  have hc0 := hH.1 l0 hal hl0
  unfold am_cell at hc0
  simp only [hkd] at hc0
  obtain ⟨cellB, q1, q2, q3, -⟩ := hc0
  obtain ⟨hx, hb, hml, hown, hts, hK, hU, hN, hX, hbb, hlk, hst, hini⟩ := C
  obtain ⟨f1, ⟨-, f2, -, -⟩, f3, f4, f5, -⟩ := am_z_facts hy
  obtain ⟨f6, f7⟩ := f2 hks
  rw [show am_cw y = .code (am_y y) (am_by y) (am_mL y) (am_ret y) from if_pos htr] at f1
  have hcls := (hK.1 (am_own y) _ (am_cl_at _ hci)).2.1
  obtain ⟨mk, methM, hnamed, hmethM, hstM, habM⟩ := Cond.instanceMethod_spec (hts _ f6)
  obtain ⟨methM', cM, hmethM', -, -, -, -, -, -, hsigM⟩ := Cond.code_spec hnamed (hts _ f1)
  cases hmethM.symm.trans hmethM'
  obtain ⟨c2, r2, m2, g1, g2, g3, g4, kP, hkP, hkPi⟩ := Cond.selects_spec (hts _ f7)
  have hclB : s.vm.findClass (am_cR (am_own y)) = some cellB.cls := by rw [q2]; exact hcls
  cases hclB.symm.trans g1
  cases (State.methodFound?_of_named hnamed f4).symm.trans g2
  cases hnamed.symm.trans g3
  refine am_runK (am_back hcon hy hts hfr hlo) (ig := .invokevirtual ix) rfl (by rw [hml]; exact hsz) (by rw [hb]; exact dg) (lv_room (am_cat rest h4)) hf hnamed (fun T hT Y => ?_) hpre
  have hselP : selectMethod e.platform s.vm cellB.cls mk = .method mk := by rw [Launch.admits_selectMethod Y.admits]; exact g4
  rw [am_arg hl0]
  exact Y.invokevirtual hx hown (hts _ (am_at_in hlk0)) hnamed hmethM hstM hkP hkPi f4 (a := am_adr G l0) (cell := cellB) (by rw [hT]; exact q1) (fun z h => by rw [q3] at h; cases h) hselP hmethM habM hkP hkPi (g := F0 m pc lsc ((vs ++ .inr (some l0) :: rest).map (am_tv G))) rfl (argsL := vs.reverse.map (am_tv G)) (rest := rest.map (am_tv G)) (am_len hy hlen _ hsigM) (am_stk hl0) (by rw [hb]; exact dg)
theorem am_run_s {d ix y k : Nat} {vs rest : List am_V} {r : am_R} (C : am_Cx p l s m args meth c G z) (hnc : am_Nc G s) (hm : am_ml (am_own z) ix = some (k, y)) (hk : k = 1 ∨ k = 4) (dg : decode (am_by z) pc = .ok (.invokestatic ix, 3)) (hlen : vs.length = am_na y) (h4 : rest.length ≤ 4) (hcon : am_Con l d y vs.reverse M X r) (hfr : d + 27 ≤ R.frames) (hlo : 31 * d + 751 ≤ R.locals) (hH : am_HR G M X H) (hS : va_S (am_A G) s.heap H locs) (hsz : lsc.size = am_mL z) (hf : cells + am_dc X r ≤ R.cells ∧ slots + am_ds X r ≤ R.slots) :
    vx_Run p l e R s m args below meth c H locs cells slots (am_dc X r) (am_ds X r) (F0 m pc lsc ((vs ++ rest).map (am_tv G))) (rest.map (am_tv G)) (am_Qr G r (vs.reverse.map (am_tv G)).toArray) (am_XCr G r) (am_A G) := by
  obtain ⟨i, hi⟩ := am_al2_in am_ml_ok _ (am_look_in hm)
  have hpre := am_pre C hnc hH hS (as := vs.reverse)
  obtain ⟨hx, hb, hml, hown, hts, hK, hU, hN, hX, hbb, hlk, hst, hini⟩ := C
  have go : ∀ (hy : am_zk y) (hks : am_ks y = 0) (_ : (Cond.methodLink (am_cR (am_own z)) ix (am_y y)).before args s = true ∨ (Cond.methodLinkNest (am_cR (am_own z)) ix (am_y y) "BellTelegraph").before args s = true), vx_Run p l e R s m args below meth c H locs cells slots (am_dc X r) (am_ds X r) (F0 m pc lsc ((vs ++ rest).map (am_tv G))) (rest.map (am_tv G)) (am_Qr G r (vs.reverse.map (am_tv G)).toArray) (am_XCr G r) (am_A G) := by
    intro hy hks hlink
    obtain ⟨f1, ⟨f2, -, -, -⟩, f3, f4, f5, -, f7, -⟩ := am_z_facts hy
    obtain ⟨mk, methM, hnamed, hmethM, hsigM⟩ := am_named hy hts
    have hstatic : methM.isStatic = true := Cond.static_spec hnamed hmethM (hts _ (f2 hks))
    obtain ⟨kP, hkP, -⟩ := className_of_methodNamed hnamed
    have hinitP : kP.init = .initialized := Cond.initialized_spec (findClass_of_methodNamed hnamed) hkP (by rw [f3]; exact hts _ (am_init_w f7))
    refine am_runK (am_back hcon hy hts hfr hlo) (ig := .invokestatic ix) rfl (by rw [hml]; exact hsz) (by rw [hb]; exact dg) (lv_room (am_cat rest h4)) hf hnamed (fun T hT Y => ?_) hpre
    rcases hlink with hlink | hlink
    · exact Y.invokestatic hx hown hlink hnamed hmethM hstatic hkP hinitP f4 (g := F0 m pc lsc ((vs ++ rest).map (am_tv G))) rfl (argsL := vs.reverse.map (am_tv G)) (rest := rest.map (am_tv G)) (am_len hy hlen _ hsigM) am_stk0 (by rw [hb]; exact dg)
    · exact Y.invokestaticNest hx hown hlink hnamed hmethM hstatic hkP hinitP f4 (g := F0 m pc lsc ((vs ++ rest).map (am_tv G))) rfl (argsL := vs.reverse.map (am_tv G)) (rest := rest.map (am_tv G)) (am_len hy hlen _ hsigM) am_stk0 (by rw [hb]; exact dg)
  rcases hk with rfl | rfl
  · simp only [am_mlw, Bool.and_eq_true, decide_eq_true_eq, beq_iff_eq] at hi
    obtain ⟨-, ⟨hlk0, hks⟩, hy⟩ := hi
    exact go hy hks (Or.inl (hts _ (am_at_in hlk0)))
  · simp only [am_mlw, Bool.and_eq_true, decide_eq_true_eq, beq_iff_eq] at hi
    obtain ⟨-, ⟨⟨hlk0, hks⟩, hy⟩, -⟩ := hi
    exact go hy hks (Or.inr (hts _ (am_at_in hlk0)))
theorem am_run_i {d ix y k : Nat} {vs rest : List am_V} {l0 : am_L} {r : am_R} (C : am_Cx p l s m args meth c G z) (hnc : am_Nc G s) (hm : am_ml (am_own z) ix = some (k, y)) (hk : k = 2 ∨ k = 3) (dg : decode (am_by z) pc = .ok (.invokespecial ix, 3)) (hlen : vs.length = am_na y) (h4 : rest.length ≤ 4) (hkd : am_kd l0 = (0, am_own y, 0)) (hcon : am_Con l d y (.inr (some l0) :: vs.reverse) M X r) (hfr : d + 27 ≤ R.frames) (hlo : 31 * d + 751 ≤ R.locals) (hH : am_HR G M X H) (hS : va_S (am_A G) s.heap H locs) (hsz : lsc.size = am_mL z) (hf : cells + am_dc X r ≤ R.cells ∧ slots + am_ds X r ≤ R.slots) :
    vx_Run p l e R s m args below meth c H locs cells slots (am_dc X r) (am_ds X r) (F0 m pc lsc ((vs ++ .inr (some l0) :: rest).map (am_tv G))) (rest.map (am_tv G)) (am_Qr G r ((.inr (some l0) :: vs.reverse : List am_V).map (am_tv G)).toArray) (am_XCr G r) (am_A G) := by
  obtain ⟨i, hi⟩ := am_al2_in am_ml_ok _ (am_look_in hm)
  have hpre := am_pre C hnc hH hS (as := .inr (some l0) :: vs.reverse)
  have hl0 := am_kd_ne hkd (by decide)
  obtain ⟨hx, hb, hml, hown, hts, hK, hU, hN, hX, hbb, hlk, hst, hini⟩ := C
  have go : ∀ (hy : am_zk y) (hks : am_ks y = 2) (htr : am_tr y = true) (_ : (Cond.methodLink (am_cR (am_own z)) ix (am_y y)).before args s = true ∨ (Cond.methodLinkNest (am_cR (am_own z)) ix (am_y y) "BellTelegraph").before args s = true), vx_Run p l e R s m args below meth c H locs cells slots (am_dc X r) (am_ds X r) (F0 m pc lsc ((vs ++ .inr (some l0) :: rest).map (am_tv G))) (rest.map (am_tv G)) (am_Qr G r ((.inr (some l0) :: vs.reverse : List am_V).map (am_tv G)).toArray) (am_XCr G r) (am_A G) := by
    intro hy hks htr hlink
    obtain ⟨f1, ⟨-, -, f2, -⟩, f3, f4, f5, -, f7, -⟩ := am_z_facts hy
    obtain ⟨f6, f8⟩ := f2 hks
    rw [show am_cw y = .code (am_y y) (am_by y) (am_mL y) (am_ret y) from if_pos htr, am_ini_ret y hy.1 hks] at f1
    obtain ⟨mk, methM, hnamed, hmethM, hsigM⟩ := am_named hy hts
    refine am_runK (am_back hcon hy hts hfr hlo) (ig := .invokespecial ix) rfl (by rw [hml]; exact hsz) (by rw [hb]; exact dg) (lv_room (am_cat rest h4)) hf hnamed (fun T hT Y => ?_) hpre
    have hpl : e.platform.magicAccessors = ({} : Platform).magicAccessors := by rw [Y.admits.platform]
    rw [am_arg hl0]
    rcases hlink with hlink | hlink
    · obtain ⟨mk2, methM2, cM, kP, vm₁, hn2, -, -, -, -, -, -, -, hW₁, hstep₁⟩ := Steps.initColdArgs (e := e) Y.here hx Y.warmed hpl hown f8 f4 hlink (hts _ f6) (hts _ f1) (f := F0 m pc lsc ((vs ++ .inr (some l0) :: rest).map (am_tv G))) rfl (fun sig h => am_len (G := G) hy hlen sig h) (am_stk hl0) (by rw [hb]; exact dg)
      cases hnamed.symm.trans hn2
      exact ⟨vm₁, Y.noted hW₁, hstep₁⟩
    · obtain ⟨mk2, methM2, cM, kP, vm₁, hn2, -, -, -, -, -, -, -, hW₁, hstep₁⟩ := Steps.initColdArgsNest (e := e) Y.here hx Y.warmed hpl hown f8 f4 hlink (hts _ f6) (hts _ f1) (f := F0 m pc lsc ((vs ++ .inr (some l0) :: rest).map (am_tv G))) rfl (fun sig h => am_len (G := G) hy hlen sig h) (am_stk hl0) (by rw [hb]; exact dg)
      cases hnamed.symm.trans hn2
      exact ⟨vm₁, Y.noted hW₁, hstep₁⟩
  rcases hk with rfl | rfl
  · simp only [am_mlw, Bool.and_eq_true, decide_eq_true_eq, beq_iff_eq] at hi
    obtain ⟨-, ⟨⟨hlk0, hks⟩, hy⟩, htr⟩ := hi
    exact go hy hks htr (Or.inl (hts _ (am_at_in hlk0)))
  · simp only [am_mlw, Bool.and_eq_true, decide_eq_true_eq, beq_iff_eq] at hi
    obtain ⟨-, ⟨⟨hlk0, hks⟩, hy⟩, htr⟩ := hi
    exact go hy hks htr (Or.inr (hts _ (am_at_in hlk0)))
/-- behind a call that returned -/
theorem am_after_v {st0 rest : List Value} {a : Array Value} {r : am_R} {v : Option am_V} (hr : vx_Run p l e R s m args below meth c H locs cells slots (am_dc X r) (am_ds X r) (F0 m pc lsc st0) rest (am_Qr G r a) (am_XCr G r) (am_A G)) (hS : va_S (am_A G) s.heap H locs) (hrv : r.1 = .inl v)
    (kk : ∀ (H1 : Heap) (locs1 : List Loc), am_HR G r.2.1 r.2.2 H1 → va_S (am_A G) s.heap H1 locs1 → W p l e R s m args below meth c H1 locs1 (cells + am_dc X r) (slots + am_ds X r) Q (F0 m (pc + 3) lsc ((v.map (am_tv G)).toList ++ rest))) : W p l e R s m args below meth c H locs cells slots Q (F0 m pc lsc st0) := by
  intro T hT Y
  rcases hr T hT Y with ⟨v', st₀, t, T', L, h0, X', hL, e1, e2, ⟨v2, g1, g2, g3, g4⟩, st⟩ | ⟨q, st₀, t, T', L, E, ce, h0, X', hL, e1, e2, ⟨E2, g1, -⟩, -⟩
  · rw [hrv] at g1
    cases g1
    cases g2
    obtain ⟨k1, k2, k3⟩ := vx_keep h0 e1 hS (fun q _ h => h) (fun q h => h) hL g4
    obtain ⟨t2, a1, b1⟩ := kk T'.heap (locs ++ L) (by rw [e1]; exact g3) k3 T' rfl X'
    exact ⟨t2, st t2 a1, b1⟩
  · rw [hrv] at g1
    cases g1
/-- behind a call that threw -/
theorem am_after_x {st0 rest : List Value} {a : Array Value} {r : am_R} {E : Nat} (hr : vx_Run p l e R s m args below meth c H locs cells slots (am_dc X r) (am_ds X r) (F0 m pc lsc st0) rest (am_Qr G r a) (am_XCr G r) (am_A G)) (hS : va_S (am_A G) s.heap H locs) (hrv : r.1 = .inr E)
    (kx : ∀ (H1 : Heap) (locs1 : List Loc) (q : Addr) (ce : Cell), am_HR G r.2.1 r.2.2 H1 → va_S (am_A G) s.heap H1 locs1 → H1[q]? = some ce → ce.vm = .none → s.vm.findClass (am_en E) = some ce.cls → vx_W p l e R s m args below meth c H1 locs1 (cells + am_dc X r) (slots + am_ds X r) Q (F0 m pc lsc rest) q) : W p l e R s m args below meth c H locs cells slots Q (F0 m pc lsc st0) := by
  intro T hT Y
  rcases hr T hT Y with ⟨v', st₀, t, T', L, h0, X', hL, e1, e2, ⟨v2, g1, g2, g3, g4⟩, st⟩ | ⟨q, st₀, t, T', L, E1, ce, h0, X', hL, e1, e2, ⟨E2, g1, g2, g3, g4⟩, hce, hcv, hcl, st⟩
  · rw [hrv] at g1
    cases g1
  · rw [hrv] at g1
    cases g1
    subst g2
    obtain ⟨k1, k2, k3⟩ := vx_keep h0 e1 hS (fun q _ h => h) (fun q h => h) hL g4
    obtain ⟨t2, a1, b1⟩ := kx T'.heap (locs ++ L) q ce (by rw [e1]; exact g3) k3 (by rw [e1]; exact hce) hcv hcl T' rfl X'
    exact ⟨t2, st.trans a1, b1⟩
theorem am_cas {E : Nat} (hE : E < 6) : Cond.castable (am_en E) (am_en E) ∈ am_W := by
  obtain ⟨i, hi⟩ := am_al2_in am_cas_ok _ (List.mem_range.mpr hE)
  exact am_at_in hi
/-- a handler takes it, and puts it into a local -/
theorem am_catch1 {E t j : Nat} {q0 : Nat × Nat × Nat × Nat} {h0 : Nat × Nat × Nat × Nat × Nat} {i0 : Nat} {pre suf : List ExceptionTableEntry} (C : am_Cx p l s m args meth c G z) (he : am_he z q0 h0 i0 = true) (hcv : h0.1 ≤ pc ∧ pc < h0.2.1 ∧ h0.2.2.1 = E) (htj : h0.2.2.2 = (t, j)) (hj : j < am_mL z) (hsplit : c.exceptionTable.toList = pre ++ ⟨q0.1, q0.2.1, q0.2.2.1, q0.2.2.2⟩ :: suf) (hpass : ∀ y ∈ pre, covers y pc = false ∨ (y.catchType ≠ 0 ∧ ∃ nm : String, (Cond.classLink (am_cR (am_own z)) y.catchType nm).before args s = true ∧ va_Nc (am_en E) nm s))
    {rest : List Value} {q : Addr} {ce : Cell} (hl : am_lv G (am_mL z) ls lsc) (hcell : H[q]? = some ce) (hv : ce.vm = .none) (hcl : s.vm.findClass (am_en E) = some ce.cls)
    (kk : ∀ lsc' : Array Slot, am_lv G (am_mL z) (am_put ls j none) lsc' → W p l e R s m args below meth c H locs cells slots Q (F0 m t lsc' [])) : vx_W p l e R s m args below meth c H locs cells slots Q (F0 m pc lsc rest) q := by
  obtain ⟨hx, hb, hml, hown, hts, hK, hU, hN, hX, hbb, hlk, hst, hini⟩ := C
  simp only [am_he, Bool.and_eq_true, decide_eq_true_eq] at he
  obtain ⟨⟨⟨⟨⟨⟨e1, e2⟩, e3⟩, e4⟩, e5⟩, e6⟩, e7⟩ := he
  obtain ⟨b1, b2, b3⟩ := hcv
  have ht : h0.2.2.2.1 = t := by rw [htj]
  have hj' : h0.2.2.2.2 = j := by rw [htj]
  rw [b3] at e4 e5
  have hlen : ls.length = am_mL z := hl.2
  refine vx_catch hown pre ⟨q0.1, q0.2.1, q0.2.2.1, q0.2.2.2⟩ suf hsplit hpass (by simp only [covers, Bool.and_eq_true, decide_eq_true_eq]; omega) e3 (name := am_en E) (by rw [e6]; exact hts _ (am_at_in e5)) (hts _ (am_cas e4)) hcell hv hcl ?_
  show W p l e R s m args below meth c H locs cells slots Q (F0 m q0.2.2.1 lsc [.ref q])
  split at e7
  · rename_i k hcd
    simp only [Bool.and_eq_true, decide_eq_true_eq] at e7
    have hk : k.val = j := e7.1.trans hj'
    have ht2 : q0.2.2.1 + 1 = t := e7.2.trans ht
    refine lv_astore_n hx hb (am_dg hcd rfl (by decide)) hk hl.1 hj rfl (fun lsc' hl' => ?_)
    rw [ht2]
    exact kk lsc' (am_lv.sub hl' (by rw [am_put_len]; exact hl.2) (am_put_sub (by omega) none _ (fun u e => by cases e)))
  · rename_i k hcd
    simp only [Bool.and_eq_true, decide_eq_true_eq] at e7
    have hk : k = j := e7.1.trans hj'
    have ht2 : q0.2.2.1 + 2 = t := e7.2.trans ht
    subst hk
    refine lv_astore hx hb (am_dg hcd rfl (by decide)) hl.1 hj rfl (fun lsc' hl' => ?_)
    rw [ht2]
    exact kk lsc' (am_lv.sub hl' (by rw [am_put_len]; exact hl.2) (am_put_sub (by omega) none _ (fun u e => by cases e)))
  · cases e7
theorem am_catch {E t j : Nat} (hz : z < 232) (C : am_Cx p l s m args meth c G z) (hnc : am_Nc G s) (htab : c.exceptionTable.toList = tableOf (am_hh z)) (hd : am_hd z pc E = some (t, j)) {rest : List Value} {q : Addr} {ce : Cell} (hl : am_lv G (am_mL z) ls lsc) (hcell : H[q]? = some ce) (hv : ce.vm = .none) (hcl : s.vm.findClass (am_en E) = some ce.cls)
    (kk : ∀ lsc' : Array Slot, am_lv G (am_mL z) (am_put ls j none) lsc' → W p l e R s m args below meth c H locs cells slots Q (F0 m t lsc' [])) : vx_W p l e R s m args below meth c H locs cells slots Q (F0 m pc lsc rest) q := by
  obtain ⟨is, hk⟩ := am_hk_ok z
  rw [Bool.and_eq_true] at hk
  obtain ⟨hk1, hk2⟩ := hk
  have hj := am_hj hz
  unfold am_hd at hd
  unfold am_hps at hk2
  have hts := C.2.2.2.2.1
  split at hk2
  · rename_i e0
    rw [e0] at hd
    cases hd
  · rename_i a e0
    rw [e0] at hd hk1 hj
    unfold am_hf at hd
    split at hd
    · rename_i hcv
      cases hh : am_hh z with
      | nil => rw [hh] at hk1; cases hk1
      | cons q0 qs =>
        rw [hh] at hk1 htab
        cases is with
        | nil => cases hk1
        | cons i0 is =>
          simp only [am_hes, Bool.and_eq_true] at hk1
          cases qs with
          | cons => exact absurd hk1.2 (by simp [am_hes])
          | nil =>
            have htj := Option.some.inj hd
            exact am_catch1 C hk1.1 hcv htj (by have := hj a (by simp); rw [htj] at this; exact this) (pre := []) (suf := []) htab (fun y h => by cases h) hl hcell hv hcl kk
    · cases hd
  · rename_i a b e0
    rw [e0] at hd hk1 hj
    have hncs := of_decide_eq_true hk2
    cases hh : am_hh z with
    | nil => rw [hh] at hk1; cases hk1
    | cons q0 qs =>
      rw [hh] at hk1 htab
      cases is with
      | nil => cases hk1
      | cons i0 is =>
        simp only [am_hes, Bool.and_eq_true] at hk1
        obtain ⟨ha, hk1⟩ := hk1
        cases qs with
        | nil => cases hk1
        | cons q1 qs =>
          cases is with
          | nil => cases hk1
          | cons i1 is =>
            simp only [am_hes, Bool.and_eq_true] at hk1
            obtain ⟨hb, hk1⟩ := hk1
            cases qs with
            | cons => exact absurd hk1 (by simp [am_hes])
            | nil =>
              unfold am_hf at hd
              split at hd
              · rename_i hcv
                have htj := Option.some.inj hd
                exact am_catch1 C ha hcv htj (by have := hj a (by simp); rw [htj] at this; exact this) (pre := []) (suf := [⟨q1.1, q1.2.1, q1.2.2.1, q1.2.2.2⟩]) htab (fun y h => by cases h) hl hcell hv hcl kk
              · rename_i hncv
                unfold am_hf at hd
                split at hd
                · rename_i hcv
                  have htj := Option.some.inj hd
                  refine am_catch1 C hb hcv htj (by have := hj b (by simp); rw [htj] at this; exact this) (pre := [⟨q0.1, q0.2.1, q0.2.2.1, q0.2.2.2⟩]) (suf := []) htab (fun y h => ?_) hl hcell hv hcl kk
                  rw [List.mem_singleton] at h
                  subst h
                  simp only [am_he, Bool.and_eq_true, decide_eq_true_eq] at ha
                  obtain ⟨⟨⟨⟨⟨⟨e1, e2⟩, e3⟩, e4⟩, e5⟩, e6⟩, e7⟩ := ha
                  refine Or.inr ⟨e3, am_en a.2.2.1, by rw [e6]; exact hts _ (am_at_in e5), ?_⟩
                  rw [← hcv.2.2]
                  exact hnc.1 _ hncs
                · cases hd
  · cases hk2
end AmCalls
end
section
/-! THE JDK's OWN METHODS: contracts at a given heap, calls by them -/
def j_W0 : List Cond := lw_tbl.filter goodWord
def j_W : List Cond := j_W0 ++ j_X
def j_at (i : Nat) (w : Cond) : Bool := decide (lw_tbl[i]? = some w) && goodWord w
theorem j_at_in {i : Nat} {w : Cond} (h : j_at i w = true) : w ∈ j_W := by
  simp only [j_at, Bool.and_eq_true, decide_eq_true_eq] at h
  exact List.mem_append_left _ (List.mem_filter.mpr ⟨List.mem_of_getElem? h.1, h.2⟩)
theorem j_W_am {w : Cond} (h : w ∈ j_W0) : w ∈ am_W := by
  obtain ⟨h1, h2⟩ := List.mem_filter.mp h
  exact List.mem_filter.mpr ⟨h1, by unfold am_gw; rw [h2]; rfl⟩
theorem j_good {ws : List Cond} (h : ∀ w ∈ ws, w ∈ j_W) : GoodIn j_W ws := fun w hw => ⟨h w hw, good_of_word ((List.mem_append.mp (h w hw)).elim (fun q => (List.mem_filter.mp q).2) (fun q => List.all_eq_true.mp j_X_good w q))⟩
abbrev jPc (u0 : State) (H0 : Heap) (av : List Value) : Array Value → State → Prop := fun a U => a = av.toArray ∧ U.heap = H0 ∧ u0.vm.Alike U.vm
abbrev jQ (post : Option Value → Heap → Prop) : Array Value → State → Outcome → State → Prop := fun _ _ o t => ∃ v, o = .returned v ∧ post v t.heap
abbrev jws (y : MethodName) (cc : ByteArray) (n : Nat) (ret : Option FieldType) : List Cond := Cond.code y cc n ret :: j_W
abbrev jrm (fr lo mc ms : Nat) : Room := { frames := fr, cells := mc, slots := ms, locals := lo }
def jM (l : Launch) (y : MethodName) (cc : ByteArray) (n : Nat) (ret : Option FieldType) (fr lo mc ms : Nat) (u0 : State) (H0 : Heap) (av : List Value) (A : Nat → Prop) (post : Option Value → Heap → Prop) : Prop :=
  Met l y (jws y cc n ret) (jrm fr lo mc ms) (jPc u0 H0 av) (jQ post) mc ms A
/-- what is at hand where a walk begins -/
abbrev jAt (p : Program) (y : MethodName) (cc : ByteArray) (n : Nat) (ret : Option FieldType) (u0 : State) (H0 : Heap) (av : List Value) (s : State) (m : MethodId) (meth : Method) (c : Code) : Prop :=
  p.tables.exec = Jvm.exec ∧ c.code = cc ∧ meth.sig.returnType = ret ∧ c.maxLocals = n ∧ (∀ w ∈ j_W, w.before av.toArray s = true) ∧ s.vm.findClass y.cls = some m.cls ∧ meth.locks = false ∧ u0.vm.Alike s.vm ∧ s.heap = H0
theorem jM.of {l : Launch} {y : MethodName} {cc : ByteArray} {n : Nat} {ret : Option FieldType} {fr lo mc ms : Nat} {u0 : State} {H0 : Heap} {av : List Value} {A : Nat → Prop} {post : Option Value → Heap → Prop} (hy : plainFor y = true) (hn : (lg_sl av).length ≤ n)
    (body : ∀ (p : Program) (e : Env) (s : State) (m : MethodId) (below : List Frame) (meth : Method) (c : Code) (ls : Array Slot), jAt p y cc n ret u0 H0 av s m meth c → lv_has ls n (lv_args 0 av) → W p l e (jrm fr lo mc ms) s m av.toArray below meth c s.heap [] 0 0 (MQ below (jQ post) av.toArray s mc ms A) (F0 m 0 ls [])) :
    jM l y cc n ret fr lo mc ms u0 H0 av A post := by
  refine va_MetF (cc := cc) (maxL := n) (ret := ret) hy rfl ?_
  intro p e s m args below meth c s₁ B hml hv
  obtain ⟨rfl, hh, hal⟩ := hv
  have hts := atoms_spec (ws := jws y cc n ret) B.pre
  have hl := lv_entry av hn
  rw [lg_entry_eq]
  exact body p e s m below meth c _ ⟨B.exec, B.bytes, B.returns, hml, fun w h => hts w (List.mem_cons_of_mem _ h), findClass_of_methodNamed B.named, B.notSynchronized, hal, hh⟩ hl
section JW
variable {p : Program} {l : Launch} {e : Env} {R : Room} {s : State} {m : MethodId} {args : Array Value} {below : List Frame} {meth : Method} {c : Code} {H : Heap} {locs : List Loc} {cells slots : Nat} {Q : State → Prop} {pc : Nat} {ls : Array Slot} {cc : ByteArray} {post : Option Value → Heap → Prop} {A : Nat → Prop} {mc ms : Nat}
theorem jret_i {v : Int32} {ty : FieldType} (hx : p.tables.exec = Jvm.exec) (hb : c.code = cc) (hr : meth.sig.returnType = some ty) (hn : narrow ty (.int v) = .int v) (hlk : meth.locks = false) (hp : post (some (.int v)) H) (hf : ∀ q ∈ locs, A q.base) (hc : cells ≤ mc) (hs : slots ≤ ms) (hdg : decode cc pc = .ok (.ireturn, 1)) : W p l e R s m args below meth c H locs cells slots (MQ below (jQ post) args s mc ms A) (F0 m pc ls [.int v]) :=
  W.widen hc hs (W.zret hx hb hr hn (fun t ht _ => ⟨_, rfl, by rw [ht]; exact hp⟩) hf hdg hlk)
theorem jret_l {v : Int64} (hx : p.tables.exec = Jvm.exec) (hb : c.code = cc) (hr : meth.sig.returnType = some .long) (hlk : meth.locks = false) (hp : post (some (.long v)) H) (hf : ∀ q ∈ locs, A q.base) (hc : cells ≤ mc) (hs : slots ≤ ms) (hdg : decode cc pc = .ok (.lreturn, 1)) : W p l e R s m args below meth c H locs cells slots (MQ below (jQ post) args s mc ms A) (F0 m pc ls [.long v]) :=
  W.widen hc hs (W.lret hx hb hr (fun t ht _ => ⟨_, rfl, by rw [ht]; exact hp⟩) hf hdg hlk)
theorem jret_v (hx : p.tables.exec = Jvm.exec) (hb : c.code = cc) (hr : meth.sig.returnType = none) (hlk : meth.locks = false) (hp : post none H) (hf : ∀ q ∈ locs, A q.base) (hc : cells ≤ mc) (hs : slots ≤ ms) (hdg : decode cc pc = .ok (.return_, 1)) : W p l e R s m args below meth c H locs cells slots (MQ below (jQ post) args s mc ms A) (F0 m pc ls []) :=
  W.widen hc hs (W.vret hx hb hr (fun t ht _ => ⟨_, rfl, by rw [ht]; exact hp⟩) hf hdg hlk)
theorem jret_a {a : Nat} {rt : FieldType} (hx : p.tables.exec = Jvm.exec) (hb : c.code = cc) (hr : meth.sig.returnType = some rt) (hrt : (∃ n, rt = .object n) ∨ ∃ t, rt = .array t) (hlk : meth.locks = false) (hp : post (some (.ref a)) H) (hf : ∀ q ∈ locs, A q.base) (hc : cells ≤ mc) (hs : slots ≤ ms) (hdg : decode cc pc = .ok (.areturn, 1)) : W p l e R s m args below meth c H locs cells slots (MQ below (jQ post) args s mc ms A) (F0 m pc ls [.ref a]) :=
  W.widen hc hs (W.aret hx hb hr hrt (Or.inr ⟨a, rfl⟩) (fun t ht _ => ⟨_, rfl, by rw [ht]; exact hp⟩) hf hdg hlk)
variable {y : MethodName} {bc : ByteArray} {n fr lo : Nat} {ret : Option FieldType} {av : List Value}
theorem j_blind {u0 : State} {H0 : Heap} : FrameBlind (jPc u0 H0 av) := fun _ _ _ _ h => h
theorem j_back (hM : jM l y bc n ret fr lo mc ms s H av A post) (hcode : Cond.code y bc n ret ∈ j_W) (hini : Cond.initialized y.cls ∈ j_W) (hts : ∀ w ∈ j_W, w.before args s = true) (hfr : fr + 1 ≤ R.frames) (hlo : lo + n + 19 ≤ R.locals) : Back l R p e below s args y 3 8 (PreOf R mc ms (jPc s H av)) (PostOf (jQ post) mc ms A) :=
  back_of (bytes := bc) (maxL := n) (ret := ret) hM j_blind rfl rfl hfr (by show 8 + (n + 11) + lo ≤ _; omega) (pay_in hts (j_good (fun w hw => (List.mem_cons.mp hw).elim (fun q => by rw [q]; exact hcode) id))) List.mem_cons_self (fun a' U hW => word_at hW (Or.inl (by first | rfl | simp [Cond.onTables, Cond.keeps, Cond.steady])) (hts _ hini))
theorem j_go {rest st0 : List Value} (h : ∀ T : State, T.heap = H → Stand p l e R s m args below meth c T locs cells slots → ∃ (v : Option Value) (vm₁ : Vm) (B : Pt), s.WarmedH vm₁ ∧ Stand p l e R s m args below meth c B.U B.locs B.cells B.slots ∧ PostOf (jQ post) mc ms A ⟨T.setVm vm₁, locs, cells, slots⟩ av.toArray v B ∧ ∀ target, Steps p.tables e below (B.U.setTop { F0 m pc ls st0 with pc := pc + 3, stack := v.toList ++ rest }) target → Steps p.tables e below (T.setTop (F0 m pc ls st0)) target)
    (kk : ∀ (v : Option Value) (H1 : Heap) (L : List Loc), post v H1 → (∀ q ∈ L, A q.base) → W p l e R s m args below meth c H1 (locs ++ L) (cells + mc) (slots + ms) Q (F0 m (pc + 3) ls (v.toList ++ rest))) : W p l e R s m args below meth c H locs cells slots Q (F0 m pc ls st0) := by
  intro T hT X
  obtain ⟨v, vm₁, ⟨U', l2, c2, s2⟩, hW₁, X', ⟨g', mk, t, L, e1, e2, ⟨v', hv, hq⟩, h1, hL, h2, h3⟩, st⟩ := h T hT X
  dsimp only [Pt.U, Pt.locs, Pt.cells, Pt.slots] at X' e1 e2 h1 h2 h3 st
  subst h1; subst h2; subst h3
  cases hv
  obtain ⟨t2, a1, b1⟩ := kk v U'.heap L (by rw [e1]; exact hq) hL U' rfl X'
  exact ⟨t2, st t2 a1, b1⟩
abbrev jKK (p : Program) (l : Launch) (e : Env) (R : Room) (s : State) (m : MethodId) (args : Array Value) (below : List Frame) (meth : Method) (c : Code) (locs : List Loc) (cells slots : Nat) (Q : State → Prop) (A : Nat → Prop) (post : Option Value → Heap → Prop) (mc ms pc : Nat) (ls : Array Slot) (rest : List Value) : Prop :=
  ∀ (v : Option Value) (H1 : Heap) (L : List Loc), post v H1 → (∀ q ∈ L, A q.base) → W p l e R s m args below meth c H1 (locs ++ L) (cells + mc) (slots + ms) Q (F0 m (pc + 3) ls (v.toList ++ rest))
theorem j_pre (hf : cells + mc ≤ R.cells ∧ slots + ms ≤ R.slots) (T : State) (hT : T.heap = H) : ∀ vm₁, s.WarmedH vm₁ → PreOf R mc ms (jPc s H av) ⟨T.setVm vm₁, locs, cells, slots⟩ av.toArray := fun vm₁ hW => ⟨hf.1, hf.2, rfl, hT, hW.alike⟩
variable {own : String} {ix : Nat} {rest : List Value}
theorem jS (hM : jM l y bc n ret fr lo mc ms s H av A post) (hx : p.tables.exec = Jvm.exec) (hb : c.code = cc) (hml : c.maxLocals = ls.size) (hown : s.vm.findClass own = some m.cls) (hts : ∀ w ∈ j_W, w.before args s = true)
    (w1 : (Cond.methodLink own ix y).before args s = true) (w2 : Cond.static y ∈ j_W) (w3 : Cond.initialized y.cls ∈ j_W) (w4 : Cond.code y bc n ret ∈ j_W) (hmh : y.cls ≠ "java/lang/invoke/MethodHandle" ∧ y.cls ≠ "java/lang/invoke/VarHandle") {k : Nat} (hd : (parseMethodDescriptor y.desc).map (fun d => d.parameters.length) = some k) (hk : av.length = k)
    (hfr : fr + 1 ≤ R.frames) (hlo : lo + n + 19 ≤ R.locals) (hf : cells + mc ≤ R.cells ∧ slots + ms ≤ R.slots) (hW : (rest.map fun v => v.category).sum ≤ 8) (hdg : decode cc pc = .ok (.invokestatic ix, 3))
    (kk : jKK p l e R s m args below meth c locs cells slots Q A post mc ms pc ls rest) : W p l e R s m args below meth c H locs cells slots Q (F0 m pc ls (av.reverse ++ rest)) := by
  refine j_go (av := av) (rest := rest) (fun T hT X => ?_) kk
  exact callS X hx (bytes := bc) (maxL := n) (ret := ret) hown w1 (hts _ w2) (hts _ w3) (hts _ w4) hmh (j_back hM w4 w3 hts hfr hlo) (g := F0 m pc ls (av.reverse ++ rest)) rfl hml.symm (argsL := av) (rest := rest) (fun sig h => by rw [h] at hd; exact hk.trans (Option.some.inj hd).symm) rfl (lv_room hW) (by rw [hb]; exact hdg) (j_pre hf T hT)
theorem jV {C : String} {b : Nat} {cellB : Cell} {al : List Value} (hM : jM l y bc n ret fr lo mc ms s H (.ref b :: al) A post) (hx : p.tables.exec = Jvm.exec) (hb : c.code = cc) (hml : c.maxLocals = ls.size) (hown : s.vm.findClass own = some m.cls) (hts : ∀ w ∈ j_W, w.before args s = true)
    (w1 : (Cond.methodLink own ix y).before args s = true) (w2 : Cond.instanceMethod y ∈ j_W) (w3 : Cond.initialized y.cls ∈ j_W) (w4 : Cond.code y bc n ret ∈ j_W) (w5 : Cond.selects C y y ∈ j_W) (hmh : y.cls ≠ "java/lang/invoke/MethodHandle" ∧ y.cls ≠ "java/lang/invoke/VarHandle") {k : Nat} (hd : (parseMethodDescriptor y.desc).map (fun d => d.parameters.length) = some k) (hk : al.length = k)
    (hcell : H[b]? = some cellB) (hobj : cellB.vm.isStatics = false) (hcls : s.vm.findClass C = some cellB.cls)
    (hfr : fr + 1 ≤ R.frames) (hlo : lo + n + 19 ≤ R.locals) (hf : cells + mc ≤ R.cells ∧ slots + ms ≤ R.slots) (hW : (rest.map fun v => v.category).sum ≤ 8) (hdg : decode cc pc = .ok (.invokevirtual ix, 3))
    (kk : jKK p l e R s m args below meth c locs cells slots Q A post mc ms pc ls rest) : W p l e R s m args below meth c H locs cells slots Q (F0 m pc ls (al.reverse ++ .ref b :: rest)) := by
  refine j_go (av := .ref b :: al) (rest := rest) (fun T hT X => ?_) kk
  exact callV X hx (C := C) (bytes := bc) (maxL := n) (ret := ret) hown w1 (hts _ w2) (hts _ w5) (hts _ w4) hmh (j_back hM w4 w3 hts hfr hlo) (by rw [hT]; exact hcell) hobj hcls (g := F0 m pc ls (al.reverse ++ .ref b :: rest)) rfl hml.symm (argsL := al) (rest := rest) (fun sig h => by rw [h] at hd; exact hk.trans (Option.some.inj hd).symm) rfl (lv_room hW) (by rw [hb]; exact hdg) (j_pre hf T hT)
/-- a method that the receiver's class C inherits from the class that the reference names, private or not -/
theorem jU {C : String} {b : Nat} {cellB : Cell} {al : List Value} (hM : jM l y bc n ret fr lo mc ms s H (.ref b :: al) A post) (hx : p.tables.exec = Jvm.exec) (hb : c.code = cc) (hml : c.maxLocals = ls.size) (hown : s.vm.findClass own = some m.cls) (hts : ∀ w ∈ j_W, w.before args s = true)
    (w1 : (Cond.methodLink own ix y).before args s = true) (w2 : Cond.instanceMethod y ∈ j_W) (w3 : Cond.initialized y.cls ∈ j_W) (w4 : Cond.code y bc n ret ∈ j_W) (w5 : (Cond.selects C y y).before args s = true) (w6 : Cond.sameMethod y.cls y.cls y.name y.desc ∈ j_W) (hmh : y.cls ≠ "java/lang/invoke/MethodHandle" ∧ y.cls ≠ "java/lang/invoke/VarHandle") {k : Nat} (hd : (parseMethodDescriptor y.desc).map (fun d => d.parameters.length) = some k) (hk : al.length = k)
    (hcell : H[b]? = some cellB) (hobj : cellB.vm.isStatics = false) (hcls : s.vm.findClass C = some cellB.cls)
    (hfr : fr + 1 ≤ R.frames) (hlo : lo + n + 19 ≤ R.locals) (hf : cells + mc ≤ R.cells ∧ slots + ms ≤ R.slots) (hW : (rest.map fun v => v.category).sum ≤ 8) (hdg : decode cc pc = .ok (.invokevirtual ix, 3))
    (kk : jKK p l e R s m args below meth c locs cells slots Q A post mc ms pc ls rest) : W p l e R s m args below meth c H locs cells slots Q (F0 m pc ls (al.reverse ++ .ref b :: rest)) := by
  refine j_go (av := .ref b :: al) (rest := rest) (fun T hT X => ?_) kk
  exact va_callVU X hx (C := C) (owner := y.cls) (x := y) (y := y) (bytes := bc) (maxL := n) (ret := ret) hown w1 (hts _ w6) (va_Decl.of (hts _ w2) (hts _ w4)) hmh w5 (hts _ w2) (hts _ w4) (j_back hM w4 w3 hts hfr hlo) (by rw [hT]; exact hcell) hobj hcls (g := F0 m pc ls (al.reverse ++ .ref b :: rest)) rfl hml.symm (argsL := al) (rest := rest) (fun sig h => by rw [h] at hd; exact hk.trans (Option.some.inj hd).symm) rfl (lv_room hW) (by rw [hb]; exact hdg) (j_pre hf T hT)
theorem jI {b : Nat} {al : List Value} (hM : jM l y bc n none fr lo mc ms s H (.ref b :: al) A post) (hx : p.tables.exec = Jvm.exec) (hb : c.code = cc) (hml : c.maxLocals = ls.size) (hown : s.vm.findClass own = some m.cls) (hts : ∀ w ∈ j_W, w.before args s = true) (hy1 : y.name = "<init>")
    (w1 : (Cond.methodLink own ix y).before args s = true) (w2 : Cond.instanceMethod y ∈ j_W) (w3 : Cond.initialized y.cls ∈ j_W) (w4 : Cond.code y bc n none ∈ j_W) (hmh : y.cls ≠ "java/lang/invoke/MethodHandle" ∧ y.cls ≠ "java/lang/invoke/VarHandle") {k : Nat} (hd : (parseMethodDescriptor y.desc).map (fun d => d.parameters.length) = some k) (hk : al.length = k)
    (hfr : fr + 1 ≤ R.frames) (hlo : lo + n + 19 ≤ R.locals) (hf : cells + mc ≤ R.cells ∧ slots + ms ≤ R.slots) (hW : (rest.map fun v => v.category).sum ≤ 8) (hdg : decode cc pc = .ok (.invokespecial ix, 3))
    (kk : jKK p l e R s m args below meth c locs cells slots Q A post mc ms pc ls rest) : W p l e R s m args below meth c H locs cells slots Q (F0 m pc ls (al.reverse ++ .ref b :: rest)) := by
  refine j_go (av := .ref b :: al) (rest := rest) (fun T hT X => ?_) kk
  exact callI X hx (bytes := bc) (maxL := n) hown hy1 w1 (hts _ w2) (hts _ w4) hmh (j_back hM w4 w3 hts hfr hlo) (g := F0 m pc ls (al.reverse ++ .ref b :: rest)) rfl hml.symm (a := b) (argsL := al) (rest := rest) (fun sig h => by rw [h] at hd; exact hk.trans (Option.some.inj hd).symm) rfl (lv_room hW) (by rw [hb]; exact hdg) (j_pre hf T hT)
end JW
end
section
/-! THE JDK's OWN METHODS: the bits of a double, of a float -/
abbrev jy_dnan : MethodName := ⟨"java/lang/Double", "isNaN", "(D)Z"⟩
abbrev jc_dnan : ByteArray := prog_20_method_6_code
abbrev jr_dnan : Option FieldType := (Option.some Jvm.ClassFile.FieldType.boolean)
abbrev jy_dbl : MethodName := ⟨"java/lang/Double", "doubleToLongBits", "(D)J"⟩
abbrev jc_dbl : ByteArray := prog_20_method_23_code
abbrev jr_dbl : Option FieldType := (Option.some Jvm.ClassFile.FieldType.long)
abbrev jy_fnan : MethodName := ⟨"java/lang/Float", "isNaN", "(F)Z"⟩
abbrev jc_fnan : ByteArray := prog_22_method_6_code
abbrev jr_fnan : Option FieldType := (Option.some Jvm.ClassFile.FieldType.boolean)
abbrev jy_flt : MethodName := ⟨"java/lang/Float", "floatToIntBits", "(F)I"⟩
abbrev jc_flt : ByteArray := prog_22_method_24_code
abbrev jr_flt : Option FieldType := (Option.some Jvm.ClassFile.FieldType.int)
theorem j_w1069 : Jvm.Cond.methodLink "java/lang/Double" (122 : Nat) ({ cls := "java/lang/Double", name := "isNaN", desc := "(D)Z" } : Jvm.MethodName) ∈ j_W := j_at_in (i := 1078) (by decide +kernel)
theorem j_w1070 : Jvm.Cond.static ({ cls := "java/lang/Double", name := "isNaN", desc := "(D)Z" } : Jvm.MethodName) ∈ j_W := j_at_in (i := 1079) (by decide +kernel)
theorem j_w26 : Jvm.Cond.initialized "java/lang/Double" ∈ j_W := j_at_in (i := 35) (by decide +kernel)
theorem j_w1071 : Jvm.Cond.code ({ cls := "java/lang/Double", name := "isNaN", desc := "(D)Z" } : Jvm.MethodName) prog_20_method_6_code (2 : Nat) (Option.some Jvm.ClassFile.FieldType.boolean) ∈ j_W := j_at_in (i := 1080) (by decide +kernel)
theorem j_w1072 : Jvm.Cond.methodLink "java/lang/Double" (134 : Nat) ({ cls := "java/lang/Double", name := "doubleToRawLongBits", desc := "(D)J" } : Jvm.MethodName) ∈ j_W := j_at_in (i := 1081) (by decide +kernel)
theorem j_w1074 : Jvm.Cond.native ({ cls := "java/lang/Double", name := "doubleToRawLongBits", desc := "(D)J" } : Jvm.MethodName) ∈ j_W := j_at_in (i := 1083) (by decide +kernel)
theorem j_w1073 : Jvm.Cond.static ({ cls := "java/lang/Double", name := "doubleToRawLongBits", desc := "(D)J" } : Jvm.MethodName) ∈ j_W := j_at_in (i := 1082) (by decide +kernel)
theorem j_w1087 : Jvm.Cond.methodLink "java/lang/Float" (59 : Nat) ({ cls := "java/lang/Float", name := "isNaN", desc := "(F)Z" } : Jvm.MethodName) ∈ j_W := j_at_in (i := 1096) (by decide +kernel)
theorem j_w1088 : Jvm.Cond.static ({ cls := "java/lang/Float", name := "isNaN", desc := "(F)Z" } : Jvm.MethodName) ∈ j_W := j_at_in (i := 1097) (by decide +kernel)
theorem j_w27 : Jvm.Cond.initialized "java/lang/Float" ∈ j_W := j_at_in (i := 36) (by decide +kernel)
theorem j_w1089 : Jvm.Cond.code ({ cls := "java/lang/Float", name := "isNaN", desc := "(F)Z" } : Jvm.MethodName) prog_22_method_6_code (1 : Nat) (Option.some Jvm.ClassFile.FieldType.boolean) ∈ j_W := j_at_in (i := 1098) (by decide +kernel)
theorem j_w1090 : Jvm.Cond.methodLink "java/lang/Float" (74 : Nat) ({ cls := "java/lang/Float", name := "floatToRawIntBits", desc := "(F)I" } : Jvm.MethodName) ∈ j_W := j_at_in (i := 1099) (by decide +kernel)
theorem j_w1092 : Jvm.Cond.native ({ cls := "java/lang/Float", name := "floatToRawIntBits", desc := "(F)I" } : Jvm.MethodName) ∈ j_W := j_at_in (i := 1101) (by decide +kernel)
theorem j_w1091 : Jvm.Cond.static ({ cls := "java/lang/Float", name := "floatToRawIntBits", desc := "(F)I" } : Jvm.MethodName) ∈ j_W := j_at_in (i := 1100) (by decide +kernel)
theorem dj_dnan_0 : decode jc_dnan 0 = .ok (.dload_n 0, 1) := by decide +kernel
theorem dj_dnan_1 : decode jc_dnan 1 = .ok (.dload_n 0, 1) := by decide +kernel
theorem dj_dnan_2 : decode jc_dnan 2 = .ok (.dcmp .l, 1) := by decide +kernel
theorem dj_dnan_3 : decode jc_dnan 3 = .ok (.ifCond .eq 7, 3) := by decide +kernel
theorem dj_dnan_10 : decode jc_dnan 10 = .ok (.iconst 0, 1) := by decide +kernel
theorem dj_dnan_11 : decode jc_dnan 11 = .ok (.ireturn, 1) := by decide +kernel
theorem dj_dbl_0 : decode jc_dbl 0 = .ok (.dload_n 0, 1) := by decide +kernel
theorem dj_dbl_1 : decode jc_dbl 1 = .ok (.invokestatic 122, 3) := by decide +kernel
theorem dj_dbl_4 : decode jc_dbl 4 = .ok (.ifCond .ne 8, 3) := by decide +kernel
theorem dj_dbl_7 : decode jc_dbl 7 = .ok (.dload_n 0, 1) := by decide +kernel
theorem dj_dbl_8 : decode jc_dbl 8 = .ok (.invokestatic 134, 3) := by decide +kernel
theorem dj_dbl_11 : decode jc_dbl 11 = .ok (.lreturn, 1) := by decide +kernel
theorem dj_fnan_0 : decode jc_fnan 0 = .ok (.fload_n 0, 1) := by decide +kernel
theorem dj_fnan_1 : decode jc_fnan 1 = .ok (.fload_n 0, 1) := by decide +kernel
theorem dj_fnan_2 : decode jc_fnan 2 = .ok (.fcmp .l, 1) := by decide +kernel
theorem dj_fnan_3 : decode jc_fnan 3 = .ok (.ifCond .eq 7, 3) := by decide +kernel
theorem dj_fnan_10 : decode jc_fnan 10 = .ok (.iconst 0, 1) := by decide +kernel
theorem dj_fnan_11 : decode jc_fnan 11 = .ok (.ireturn, 1) := by decide +kernel
theorem dj_flt_0 : decode jc_flt 0 = .ok (.fload_n 0, 1) := by decide +kernel
theorem dj_flt_1 : decode jc_flt 1 = .ok (.invokestatic 59, 3) := by decide +kernel
theorem dj_flt_4 : decode jc_flt 4 = .ok (.ifCond .ne 8, 3) := by decide +kernel
theorem dj_flt_7 : decode jc_flt 7 = .ok (.fload_n 0, 1) := by decide +kernel
theorem dj_flt_8 : decode jc_flt 8 = .ok (.invokestatic 74, 3) := by decide +kernel
theorem dj_flt_11 : decode jc_flt 11 = .ok (.ireturn, 1) := by decide +kernel
theorem jn_cmp (a : Int) : compare a a = .eq := by simp [compare, compareOfLessAndEq]
theorem jn_ord {d : FP.Core.Datum} (h : d ≠ .nan) : FP.Core.order d d = some .eq := by
  cases d with
  | nan => exact absurd rfl h
  | inf s => exact congrArg some (jn_cmp _)
  | fin s c q => exact congrArg some (jn_cmp _)
theorem jn_d {x : UInt64} (h : x &&& 0x7fffffffffffffff ≤ 0x7ff0000000000000) : FP.dcmp x x = some .eq := by
  have h1 : x.toNat % 9223372036854775808 ≤ 9218868437227405312 := by
    have := UInt64.le_iff_toNat_le.mp h
    rw [UInt64.toNat_and, show (0x7fffffffffffffff : UInt64).toNat = 2 ^ 63 - 1 from rfl, Nat.and_two_pow_sub_one_eq_mod] at this
    exact this
  refine jn_ord (d := FP.Core.decode FP.Core.b64 x.toNat) ?_
  unfold FP.Core.decode
  split
  · rename_i he
    split
    · intro q; cases q
    · rename_i ht
      exfalso
      have he : x.toNat / 4503599627370496 % 2048 = 2047 := he
      have ht : ¬ x.toNat % 4503599627370496 = 0 := ht
      omega
  · split <;> (intro q; cases q)
theorem jn_f {x : UInt32} (h : x &&& 0x7fffffff ≤ 0x7f800000) : FP.fcmp x x = some .eq := by
  have h1 : x.toNat % 2147483648 ≤ 2139095040 := by
    have := UInt32.le_iff_toNat_le.mp h
    rw [UInt32.toNat_and, show (0x7fffffff : UInt32).toNat = 2 ^ 31 - 1 from rfl, Nat.and_two_pow_sub_one_eq_mod] at this
    exact this
  refine jn_ord (d := FP.Core.decode FP.Core.b32 x.toNat) ?_
  unfold FP.Core.decode
  split
  · rename_i he
    split
    · intro q; cases q
    · rename_i ht
      exfalso
      have he : x.toNat / 8388608 % 256 = 255 := he
      have ht : ¬ x.toNat % 8388608 = 0 := ht
      omega
  · split <;> (intro q; cases q)
theorem j_nil {P : Loc → Prop} : ∀ q ∈ ([] : List Loc), P q := fun q hq => absurd hq List.not_mem_nil
section JN
variable (l : Launch) {u0 : State} {H0 : Heap}
theorem mj_dnan {x : UInt64} (h : x &&& 0x7fffffffffffffff ≤ 0x7ff0000000000000) : jM l jy_dnan jc_dnan 2 jr_dnan 0 0 0 0 u0 H0 [.double x] (fun _ => False) (fun v H => v = some (.int 0) ∧ H = H0) := by
  refine jM.of (by decide +kernel) (Nat.le_of_ble_eq_true rfl) ?_
  rintro p e s m below meth c ls ⟨hx, hb, hr, hml, hts, hown, hlk, hal, hh⟩ hl
  have hl : lv_has ls 2 [(0, .double x)] := hl
  refine lv_dload_n hx hb dj_dnan_0 rfl (lv_at hl 0 rfl) ?_
  refine lv_dload_n hx hb dj_dnan_1 rfl (lv_at hl 0 rfl) ?_
  refine lv_dcmp hx hb dj_dnan_2 ?_
  rw [jn_d h]
  refine lv_if_eq (tgt := 10) hx hb dj_dnan_3 (by decide) (fun _ => ?_) (fun q => absurd rfl q)
  refine lv_iconst (v := 0) hx hb dj_dnan_10 (by decide) ?_
  exact jret_i hx hb hr rfl hlk ⟨rfl, hh⟩ j_nil (Nat.le_refl _) (Nat.le_refl _) dj_dnan_11
theorem mj_dbl {x : UInt64} (h : x &&& 0x7fffffffffffffff ≤ 0x7ff0000000000000) : jM l jy_dbl jc_dbl 2 jr_dbl 1 21 0 0 u0 H0 [.double x] (fun _ => False) (fun v H => v = some (.long x.toInt64) ∧ H = H0) := by
  refine jM.of (by decide +kernel) (Nat.le_of_ble_eq_true rfl) ?_
  rintro p e s m below meth c ls ⟨hx, hb, hr, hml, hts, hown, hlk, hal, hh⟩ hl
  have hl : lv_has ls 2 [(0, .double x)] := hl
  refine lv_dload_n hx hb dj_dbl_0 rfl (lv_at hl 0 rfl) ?_
  refine jS (av := [.double x]) (rest := []) (k := 1) (ix := 122) (mj_dnan l (u0 := s) (H0 := s.heap) h) hx hb (hml.trans hl.1.symm) hown hts (hts _ j_w1069) j_w1070 j_w26 j_w1071 (by decide) (by decide +kernel) rfl (by decide) (by decide) ⟨Nat.le_refl _, Nat.le_refl _⟩ (by decide) dj_dbl_1 ?_
  rintro v H1 L ⟨rfl, rfl⟩ hL
  refine lv_if_ne (tgt := 12) hx hb dj_dbl_4 (by decide) (fun q => absurd rfl q) (fun _ => ?_)
  refine lv_dload_n hx hb dj_dbl_7 rfl (lv_at hl 0 rfl) ?_
  refine vn_d2l hx hb (hml.trans hl.1.symm) hown (hts _ j_w1072) (hts _ j_w1074) (hts _ j_w1073) (hts _ j_w26) (by decide) (by decide) dj_dbl_8 ?_
  exact jret_l hx hb hr hlk ⟨rfl, hh⟩ hL (Nat.le_refl _) (Nat.le_refl _) dj_dbl_11
theorem mj_fnan {x : UInt32} (h : x &&& 0x7fffffff ≤ 0x7f800000) : jM l jy_fnan jc_fnan 1 jr_fnan 0 0 0 0 u0 H0 [.float x] (fun _ => False) (fun v H => v = some (.int 0) ∧ H = H0) := by
  refine jM.of (by decide +kernel) (Nat.le_of_ble_eq_true rfl) ?_
  rintro p e s m below meth c ls ⟨hx, hb, hr, hml, hts, hown, hlk, hal, hh⟩ hl
  have hl : lv_has ls 1 [(0, .float x)] := hl
  refine lv_fload_n hx hb dj_fnan_0 rfl (lv_at hl 0 rfl) ?_
  refine lv_fload_n hx hb dj_fnan_1 rfl (lv_at hl 0 rfl) ?_
  refine lv_fcmp hx hb dj_fnan_2 ?_
  rw [jn_f h]
  refine lv_if_eq (tgt := 10) hx hb dj_fnan_3 (by decide) (fun _ => ?_) (fun q => absurd rfl q)
  refine lv_iconst (v := 0) hx hb dj_fnan_10 (by decide) ?_
  exact jret_i hx hb hr rfl hlk ⟨rfl, hh⟩ j_nil (Nat.le_refl _) (Nat.le_refl _) dj_fnan_11
theorem mj_flt {x : UInt32} (h : x &&& 0x7fffffff ≤ 0x7f800000) : jM l jy_flt jc_flt 1 jr_flt 1 21 0 0 u0 H0 [.float x] (fun _ => False) (fun v H => v = some (.int x.toInt32) ∧ H = H0) := by
  refine jM.of (by decide +kernel) (Nat.le_of_ble_eq_true rfl) ?_
  rintro p e s m below meth c ls ⟨hx, hb, hr, hml, hts, hown, hlk, hal, hh⟩ hl
  have hl : lv_has ls 1 [(0, .float x)] := hl
  refine lv_fload_n hx hb dj_flt_0 rfl (lv_at hl 0 rfl) ?_
  refine jS (av := [.float x]) (rest := []) (k := 1) (ix := 59) (mj_fnan l (u0 := s) (H0 := s.heap) h) hx hb (hml.trans hl.1.symm) hown hts (hts _ j_w1087) j_w1088 j_w27 j_w1089 (by decide) (by decide +kernel) rfl (by decide) (by decide) ⟨Nat.le_refl _, Nat.le_refl _⟩ (by decide) dj_flt_1 ?_
  rintro v H1 L ⟨rfl, rfl⟩ hL
  refine lv_if_ne (tgt := 12) hx hb dj_flt_4 (by decide) (fun q => absurd rfl q) (fun _ => ?_)
  refine lv_fload_n hx hb dj_flt_7 rfl (lv_at hl 0 rfl) ?_
  refine vn_f2i hx hb (hml.trans hl.1.symm) hown (hts _ j_w1090) (hts _ j_w1092) (hts _ j_w1091) (hts _ j_w27) (by decide) (by decide) dj_flt_8 ?_
  exact jret_i hx hb hr rfl hlk ⟨rfl, hh⟩ hL (Nat.le_refl _) (Nat.le_refl _) dj_flt_11
end JN
end
section
/-! THE JDK's OWN METHODS: a String's length, a String's letter -/
abbrev jy_scod : MethodName := ⟨"java/lang/String", "coder", "()B"⟩
abbrev jc_scod : ByteArray := prog_30_method_152_code
abbrev jr_scod : Option FieldType := (Option.some Jvm.ClassFile.FieldType.byte)
abbrev jy_slen : MethodName := ⟨"java/lang/String", "length", "()I"⟩
abbrev jc_slen : ByteArray := prog_30_method_54_code
abbrev jr_slen : Option FieldType := (Option.some Jvm.ClassFile.FieldType.int)
abbrev jy_slat : MethodName := ⟨"java/lang/String", "isLatin1", "()Z"⟩
abbrev jc_slat : ByteArray := prog_30_method_154_code
abbrev jr_slat : Option FieldType := (Option.some Jvm.ClassFile.FieldType.boolean)
abbrev jy_pchk : MethodName := ⟨"jdk/internal/util/Preconditions", "checkIndex", "(IILjava/util/function/BiFunction;)I"⟩
abbrev jc_pchk : ByteArray := prog_42_method_11_code
abbrev jr_pchk : Option FieldType := (Option.some Jvm.ClassFile.FieldType.int)
abbrev jy_schk : MethodName := ⟨"java/lang/String", "checkIndex", "(II)V"⟩
abbrev jc_schk : ByteArray := prog_30_method_155_code
abbrev jr_schk : Option FieldType := (Option.none : Option Jvm.ClassFile.FieldType)
abbrev jy_lch : MethodName := ⟨"java/lang/StringLatin1", "charAt", "([BI)C"⟩
abbrev jc_lch : ByteArray := prog_32_method_2_code
abbrev jr_lch : Option FieldType := (Option.some Jvm.ClassFile.FieldType.char)
abbrev jy_sch : MethodName := ⟨"java/lang/String", "charAt", "(I)C"⟩
abbrev jc_sch : ByteArray := prog_30_method_56_code
abbrev jr_sch : Option FieldType := (Option.some Jvm.ClassFile.FieldType.char)
theorem j_w995 : Jvm.Cond.fieldLink "java/lang/String" (38 : Nat) "java/lang/String" "COMPACT_STRINGS" "Z" ∈ j_W := j_at_in (i := 1004) (by decide +kernel)
theorem j_w1368 : Jvm.Cond.fieldLink "java/lang/String" (15 : Nat) "java/lang/String" "coder" "B" ∈ j_W := j_at_in (i := 1377) (by decide +kernel)
theorem j_w1367 : Jvm.Cond.fieldLink "java/lang/String" (9 : Nat) "java/lang/String" "value" "[B" ∈ j_W := j_at_in (i := 1376) (by decide +kernel)
theorem j_w991 : Jvm.Cond.methodLink "java/lang/String" (335 : Nat) ({ cls := "java/lang/String", name := "coder", desc := "()B" } : Jvm.MethodName) ∈ j_W := j_at_in (i := 1000) (by decide +kernel)
theorem j_w992 : Jvm.Cond.instanceMethod ({ cls := "java/lang/String", name := "coder", desc := "()B" } : Jvm.MethodName) ∈ j_W := j_at_in (i := 1001) (by decide +kernel)
theorem j_w20 : Jvm.Cond.initialized "java/lang/String" ∈ j_W := j_at_in (i := 29) (by decide +kernel)
theorem j_w994 : Jvm.Cond.code ({ cls := "java/lang/String", name := "coder", desc := "()B" } : Jvm.MethodName) prog_30_method_152_code (1 : Nat) (Option.some Jvm.ClassFile.FieldType.byte) ∈ j_W := j_at_in (i := 1003) (by decide +kernel)
theorem j_w993 : Jvm.Cond.selects "java/lang/String" ({ cls := "java/lang/String", name := "coder", desc := "()B" } : Jvm.MethodName) ({ cls := "java/lang/String", name := "coder", desc := "()B" } : Jvm.MethodName) ∈ j_W := j_at_in (i := 1002) (by decide +kernel)
theorem j_w1018 : Jvm.Cond.fieldLink "java/lang/String" (1053 : Nat) "jdk/internal/util/Preconditions" "SIOOBE_FORMATTER" "Ljava/util/function/BiFunction;" ∈ j_W := j_at_in (i := 1027) (by decide +kernel)
theorem j_w1020 : Jvm.Cond.methodLink "java/lang/String" (1059 : Nat) ({ cls := "jdk/internal/util/Preconditions", name := "checkIndex", desc := "(IILjava/util/function/BiFunction;)I" } : Jvm.MethodName) ∈ j_W := j_at_in (i := 1029) (by decide +kernel)
theorem j_w1021 : Jvm.Cond.static ({ cls := "jdk/internal/util/Preconditions", name := "checkIndex", desc := "(IILjava/util/function/BiFunction;)I" } : Jvm.MethodName) ∈ j_W := j_at_in (i := 1030) (by decide +kernel)
theorem j_w22 : Jvm.Cond.initialized "jdk/internal/util/Preconditions" ∈ j_W := j_at_in (i := 31) (by decide +kernel)
theorem j_w1022 : Jvm.Cond.code ({ cls := "jdk/internal/util/Preconditions", name := "checkIndex", desc := "(IILjava/util/function/BiFunction;)I" } : Jvm.MethodName) prog_42_method_11_code (3 : Nat) (Option.some Jvm.ClassFile.FieldType.int) ∈ j_W := j_at_in (i := 1031) (by decide +kernel)
theorem j_w1015 : Jvm.Cond.methodLink "java/lang/StringLatin1" (9 : Nat) ({ cls := "java/lang/String", name := "checkIndex", desc := "(II)V" } : Jvm.MethodName) ∈ j_W := j_at_in (i := 1024) (by decide +kernel)
theorem j_w1016 : Jvm.Cond.static ({ cls := "java/lang/String", name := "checkIndex", desc := "(II)V" } : Jvm.MethodName) ∈ j_W := j_at_in (i := 1025) (by decide +kernel)
theorem j_w1017 : Jvm.Cond.code ({ cls := "java/lang/String", name := "checkIndex", desc := "(II)V" } : Jvm.MethodName) prog_30_method_155_code (2 : Nat) (Option.none : Option Jvm.ClassFile.FieldType) ∈ j_W := j_at_in (i := 1026) (by decide +kernel)
theorem j_w1008 : Jvm.Cond.methodLink "java/lang/String" (492 : Nat) ({ cls := "java/lang/String", name := "isLatin1", desc := "()Z" } : Jvm.MethodName) ∈ j_W := j_at_in (i := 1017) (by decide +kernel)
theorem j_w1009 : Jvm.Cond.instanceMethod ({ cls := "java/lang/String", name := "isLatin1", desc := "()Z" } : Jvm.MethodName) ∈ j_W := j_at_in (i := 1018) (by decide +kernel)
theorem j_w1011 : Jvm.Cond.code ({ cls := "java/lang/String", name := "isLatin1", desc := "()Z" } : Jvm.MethodName) prog_30_method_154_code (1 : Nat) (Option.some Jvm.ClassFile.FieldType.boolean) ∈ j_W := j_at_in (i := 1020) (by decide +kernel)
theorem j_w1010 : Jvm.Cond.selects "java/lang/String" ({ cls := "java/lang/String", name := "isLatin1", desc := "()Z" } : Jvm.MethodName) ({ cls := "java/lang/String", name := "isLatin1", desc := "()Z" } : Jvm.MethodName) ∈ j_W := j_at_in (i := 1019) (by decide +kernel)
theorem j_w1012 : Jvm.Cond.methodLink "java/lang/String" (495 : Nat) ({ cls := "java/lang/StringLatin1", name := "charAt", desc := "([BI)C" } : Jvm.MethodName) ∈ j_W := j_at_in (i := 1021) (by decide +kernel)
theorem j_w1013 : Jvm.Cond.static ({ cls := "java/lang/StringLatin1", name := "charAt", desc := "([BI)C" } : Jvm.MethodName) ∈ j_W := j_at_in (i := 1022) (by decide +kernel)
theorem j_w21 : Jvm.Cond.initialized "java/lang/StringLatin1" ∈ j_W := j_at_in (i := 30) (by decide +kernel)
theorem j_w1014 : Jvm.Cond.code ({ cls := "java/lang/StringLatin1", name := "charAt", desc := "([BI)C" } : Jvm.MethodName) prog_32_method_2_code (2 : Nat) (Option.some Jvm.ClassFile.FieldType.char) ∈ j_W := j_at_in (i := 1023) (by decide +kernel)
theorem dj_scod_0 : decode jc_scod 0 = .ok (.getstatic 38, 3) := by decide +kernel
theorem dj_scod_3 : decode jc_scod 3 = .ok (.ifCond .eq 10, 3) := by decide +kernel
theorem dj_scod_6 : decode jc_scod 6 = .ok (.aload_n 0, 1) := by decide +kernel
theorem dj_scod_7 : decode jc_scod 7 = .ok (.getfield 15, 3) := by decide +kernel
theorem dj_scod_10 : decode jc_scod 10 = .ok (.goto 4, 3) := by decide +kernel
theorem dj_scod_14 : decode jc_scod 14 = .ok (.ireturn, 1) := by decide +kernel
theorem dj_slen_0 : decode jc_slen 0 = .ok (.aload_n 0, 1) := by decide +kernel
theorem dj_slen_1 : decode jc_slen 1 = .ok (.getfield 9, 3) := by decide +kernel
theorem dj_slen_4 : decode jc_slen 4 = .ok (.arraylength, 1) := by decide +kernel
theorem dj_slen_5 : decode jc_slen 5 = .ok (.aload_n 0, 1) := by decide +kernel
theorem dj_slen_6 : decode jc_slen 6 = .ok (.invokevirtual 335, 3) := by decide +kernel
theorem dj_slen_9 : decode jc_slen 9 = .ok (.ishr, 1) := by decide +kernel
theorem dj_slen_10 : decode jc_slen 10 = .ok (.ireturn, 1) := by decide +kernel
theorem dj_slat_0 : decode jc_slat 0 = .ok (.getstatic 38, 3) := by decide +kernel
theorem dj_slat_3 : decode jc_slat 3 = .ok (.ifCond .eq 14, 3) := by decide +kernel
theorem dj_slat_6 : decode jc_slat 6 = .ok (.aload_n 0, 1) := by decide +kernel
theorem dj_slat_7 : decode jc_slat 7 = .ok (.getfield 15, 3) := by decide +kernel
theorem dj_slat_10 : decode jc_slat 10 = .ok (.ifCond .ne 7, 3) := by decide +kernel
theorem dj_slat_13 : decode jc_slat 13 = .ok (.iconst 1, 1) := by decide +kernel
theorem dj_slat_14 : decode jc_slat 14 = .ok (.goto 4, 3) := by decide +kernel
theorem dj_slat_18 : decode jc_slat 18 = .ok (.ireturn, 1) := by decide +kernel
theorem dj_pchk_0 : decode jc_pchk 0 = .ok (.iload_n 0, 1) := by decide +kernel
theorem dj_pchk_1 : decode jc_pchk 1 = .ok (.ifCond .lt 8, 3) := by decide +kernel
theorem dj_pchk_4 : decode jc_pchk 4 = .ok (.iload_n 0, 1) := by decide +kernel
theorem dj_pchk_5 : decode jc_pchk 5 = .ok (.iload_n 1, 1) := by decide +kernel
theorem dj_pchk_6 : decode jc_pchk 6 = .ok (.if_icmp .lt 10, 3) := by decide +kernel
theorem dj_pchk_16 : decode jc_pchk 16 = .ok (.iload_n 0, 1) := by decide +kernel
theorem dj_pchk_17 : decode jc_pchk 17 = .ok (.ireturn, 1) := by decide +kernel
theorem dj_schk_0 : decode jc_schk 0 = .ok (.iload_n 0, 1) := by decide +kernel
theorem dj_schk_1 : decode jc_schk 1 = .ok (.iload_n 1, 1) := by decide +kernel
theorem dj_schk_2 : decode jc_schk 2 = .ok (.getstatic 1053, 3) := by decide +kernel
theorem dj_schk_5 : decode jc_schk 5 = .ok (.invokestatic 1059, 3) := by decide +kernel
theorem dj_schk_8 : decode jc_schk 8 = .ok (.pop, 1) := by decide +kernel
theorem dj_schk_9 : decode jc_schk 9 = .ok (.return_, 1) := by decide +kernel
theorem dj_lch_0 : decode jc_lch 0 = .ok (.iload_n 1, 1) := by decide +kernel
theorem dj_lch_1 : decode jc_lch 1 = .ok (.aload_n 0, 1) := by decide +kernel
theorem dj_lch_2 : decode jc_lch 2 = .ok (.arraylength, 1) := by decide +kernel
theorem dj_lch_3 : decode jc_lch 3 = .ok (.invokestatic 9, 3) := by decide +kernel
theorem dj_lch_6 : decode jc_lch 6 = .ok (.aload_n 0, 1) := by decide +kernel
theorem dj_lch_7 : decode jc_lch 7 = .ok (.iload_n 1, 1) := by decide +kernel
theorem dj_lch_8 : decode jc_lch 8 = .ok (.baload, 1) := by decide +kernel
theorem dj_lch_9 : decode jc_lch 9 = .ok (.sipush 255, 3) := by decide +kernel
theorem dj_lch_12 : decode jc_lch 12 = .ok (.iand, 1) := by decide +kernel
theorem dj_lch_13 : decode jc_lch 13 = .ok (.i2c, 1) := by decide +kernel
theorem dj_lch_14 : decode jc_lch 14 = .ok (.ireturn, 1) := by decide +kernel
theorem dj_sch_0 : decode jc_sch 0 = .ok (.aload_n 0, 1) := by decide +kernel
theorem dj_sch_1 : decode jc_sch 1 = .ok (.invokevirtual 492, 3) := by decide +kernel
theorem dj_sch_4 : decode jc_sch 4 = .ok (.ifCond .eq 12, 3) := by decide +kernel
theorem dj_sch_7 : decode jc_sch 7 = .ok (.aload_n 0, 1) := by decide +kernel
theorem dj_sch_8 : decode jc_sch 8 = .ok (.getfield 9, 3) := by decide +kernel
theorem dj_sch_11 : decode jc_sch 11 = .ok (.iload_n 1, 1) := by decide +kernel
theorem dj_sch_12 : decode jc_sch 12 = .ok (.invokestatic 495, 3) := by decide +kernel
theorem dj_sch_15 : decode jc_sch 15 = .ok (.ireturn, 1) := by decide +kernel
/-- a Latin-1 String at a, her bytes at b, no one of them in A -/
def jStr (a b n : Nat) (f : Nat → Int32) (A : Nat → Prop) (U : State) (H : Heap) : Prop := va_Z "java/lang/String" "COMPACT_STRINGS" "Z" (.int 1) A U H ∧ va_OF "java/lang/String" "value" "[B" (.ref b) a A U H ∧ va_OF "java/lang/String" "coder" "B" (.int 0) a A U H ∧ va_T .byte b n (fun j => .int (f j)) A U H ∧ ∃ cell : Cell, H[a]? = some cell ∧ cell.vm.isStatics = false ∧ U.vm.findClass "java/lang/String" = some cell.cls ∧ ¬ A a
theorem jStr.moved {a b n : Nat} {f : Nat → Int32} {A : Nat → Prop} {u U : State} {H : Heap} (hvm : u.vm.Alike U.vm) (h : jStr a b n f A u H) : jStr a b n f A U H := by
  obtain ⟨h1, h2, h3, h4, cell, h5, h6, h7, h8⟩ := h
  exact ⟨va_Z.moved hvm h1, va_OF.moved hvm h2, va_OF.moved hvm h3, va_T.moved hvm h4, cell, h5, h6, by rw [hvm.findClass]; exact h7, h8⟩
theorem jStr.kept {a b n : Nat} {f : Nat → Int32} {A : Nat → Prop} {U : State} {H H1 : Heap} (h : jStr a b n f A U H) (hq : ∀ q : Nat, q < H.size → ¬ A q → H1[q]? = H[q]?) : jStr a b n f A U H1 := by
  obtain ⟨h1, h2, h3, h4, cell, h5, h6, h7, h8⟩ := h
  exact ⟨h1.kept hq, h2.kept hq, h3.kept hq, h4.kept hq, cell, by rw [hq a (Array.getElem?_eq_some_iff.mp h5).1 h8]; exact h5, h6, h7, h8⟩
theorem jStr.narrow {a b n : Nat} {f : Nat → Int32} {A B : Nat → Prop} {U : State} {H : Heap} (h : jStr a b n f A U H) (hAB : ∀ q, B q → A q) : jStr a b n f B U H := by
  obtain ⟨h1, h2, h3, h4, cell, h5, h6, h7, h8⟩ := h
  exact ⟨h1.narrow hAB, h2.narrow hAB, h3.narrow hAB, h4.narrow hAB, cell, h5, h6, h7, fun z => h8 (hAB _ z)⟩
abbrev jNo : Nat → Prop := fun _ => False
theorem jStr.none {a b n : Nat} {f : Nat → Int32} {A : Nat → Prop} {U : State} {H : Heap} (h : jStr a b n f A U H) : jStr a b n f jNo U H := h.narrow fun _ q => q.elim
section JS
variable (l : Launch) {u0 : State} {H0 : Heap} {a b n : Nat} {f : Nat → Int32} {A : Nat → Prop}
theorem mj_scod (hs : jStr a b n f A u0 H0) : jM l jy_scod jc_scod 1 jr_scod 0 0 0 0 u0 H0 [.ref a] jNo (fun v H => v = some (.int 0) ∧ H = H0) := by
  refine jM.of (by decide +kernel) (Nat.le_of_ble_eq_true rfl) ?_
  rintro p e s m below meth c ls ⟨hx, hb, hr, hml, hts, hown, hlk, hal, rfl⟩ hl
  have hl : lv_has ls 1 [(0, .ref a)] := hl
  obtain ⟨h1, h2, h3, h4, -⟩ := (hs.moved hal).none
  refine va_gets hx hb h1 va_S.rf hown (hts _ j_w995) (fun _ h => h) dj_scod_0 ?_
  refine lv_if_eq (tgt := 13) hx hb dj_scod_3 (by decide) (fun q => absurd q (by decide)) (fun _ => ?_)
  refine lv_aload_n hx hb dj_scod_6 rfl (lv_at hl 0 rfl) ?_
  refine vk_getf hx hb h3 va_S.rf hown (hts _ j_w1368) (fun _ h => h) dj_scod_7 ?_
  refine lv_goto (tgt := 14) hx hb dj_scod_10 (by decide) ?_
  exact jret_i hx hb hr rfl hlk ⟨rfl, rfl⟩ j_nil (Nat.le_refl _) (Nat.le_refl _) dj_scod_14
theorem mj_slen (hs : jStr a b n f A u0 H0) : jM l jy_slen jc_slen 1 jr_slen 1 20 0 0 u0 H0 [.ref a] jNo (fun v H => v = some (.int (nI n)) ∧ H = H0) := by
  refine jM.of (by decide +kernel) (Nat.le_of_ble_eq_true rfl) ?_
  rintro p e s m below meth c ls ⟨hx, hb, hr, hml, hts, hown, hlk, hal, rfl⟩ hl
  have hl : lv_has ls 1 [(0, .ref a)] := hl
  have hs := (hs.moved hal).none
  obtain ⟨h1, h2, h3, h4, cell, h5, h6, h7, -⟩ := id hs
  refine lv_aload_n hx hb dj_slen_0 rfl (lv_at hl 0 rfl) ?_
  refine vk_getf hx hb h2 va_S.rf hown (hts _ j_w1367) (fun _ h => h) dj_slen_1 ?_
  refine va_tlen hx hb h4 va_S.rf rfl dj_slen_4 ?_
  refine lv_aload_n hx hb dj_slen_5 rfl (lv_at hl 0 rfl) ?_
  refine jV (C := "java/lang/String") (al := []) (rest := [.int (Int32.ofNat n)]) (k := 0) (ix := 335) (mj_scod l (u0 := s) (H0 := s.heap) hs) hx hb (hml.trans hl.1.symm) hown hts (hts _ j_w991) j_w992 j_w20 j_w994 j_w993 (by decide) (by decide +kernel) rfl h5 h6 h7 (by decide) (by decide) ⟨Nat.le_refl _, Nat.le_refl _⟩ (Nat.le_of_ble_eq_true rfl) dj_slen_6 ?_
  rintro v H1 L ⟨rfl, rfl⟩ hL
  refine lv_ishr hx hb dj_slen_9 ?_
  rw [sb_shr0]
  exact jret_i hx hb hr rfl hlk ⟨rfl, rfl⟩ hL (Nat.le_refl _) (Nat.le_refl _) dj_slen_10
theorem mj_slat (hs : jStr a b n f A u0 H0) : jM l jy_slat jc_slat 1 jr_slat 0 0 0 0 u0 H0 [.ref a] jNo (fun v H => v = some (.int 1) ∧ H = H0) := by
  refine jM.of (by decide +kernel) (Nat.le_of_ble_eq_true rfl) ?_
  rintro p e s m below meth c ls ⟨hx, hb, hr, hml, hts, hown, hlk, hal, rfl⟩ hl
  have hl : lv_has ls 1 [(0, .ref a)] := hl
  obtain ⟨h1, h2, h3, h4, -⟩ := (hs.moved hal).none
  refine va_gets hx hb h1 va_S.rf hown (hts _ j_w995) (fun _ h => h) dj_slat_0 ?_
  refine lv_if_eq (tgt := 17) hx hb dj_slat_3 (by decide) (fun q => absurd q (by decide)) (fun _ => ?_)
  refine lv_aload_n hx hb dj_slat_6 rfl (lv_at hl 0 rfl) ?_
  refine vk_getf hx hb h3 va_S.rf hown (hts _ j_w1368) (fun _ h => h) dj_slat_7 ?_
  refine lv_if_ne (tgt := 17) hx hb dj_slat_10 (by decide) (fun q => absurd rfl q) (fun _ => ?_)
  refine lv_iconst (v := 1) hx hb dj_slat_13 (by decide) ?_
  refine lv_goto (tgt := 18) hx hb dj_slat_14 (by decide) ?_
  exact jret_i hx hb hr rfl hlk ⟨rfl, rfl⟩ j_nil (Nat.le_refl _) (Nat.le_refl _) dj_slat_18
theorem mj_pchk {i k : Int32} {w : Value} (hw : w = .null ∨ ∃ q : Nat, w = .ref q) (h0 : ¬ i < 0) (hk : i < k) : jM l jy_pchk jc_pchk 3 jr_pchk 0 0 0 0 u0 H0 [.int i, .int k, w] jNo (fun v H => v = some (.int i) ∧ H = H0) := by
  have go : ∀ (p : Program) (e : Env) (s : State) (m : MethodId) (below : List Frame) (meth : Method) (c : Code) (ls : Array Slot), jAt p jy_pchk jc_pchk 3 jr_pchk u0 H0 [.int i, .int k, w] s m meth c → lv_has ls 3 [(0, .int i), (1, .int k), (2, w)] → W p l e (jrm 0 0 0 0) s m [.int i, .int k, w].toArray below meth c s.heap [] 0 0 (MQ below (jQ fun v H => v = some (.int i) ∧ H = H0) [.int i, .int k, w].toArray s 0 0 jNo) (F0 m 0 ls []) := by
    rintro p e s m below meth c ls ⟨hx, hb, hr, hml, hts, hown, hlk, hal, rfl⟩ hl
    refine lv_iload_n hx hb dj_pchk_0 rfl (lv_at hl 0 rfl) ?_
    refine lv_if_lt (tgt := 9) hx hb dj_pchk_1 (by decide) (fun q => absurd q h0) (fun _ => ?_)
    refine lv_iload_n hx hb dj_pchk_4 rfl (lv_at hl 0 rfl) ?_
    refine lv_iload_n hx hb dj_pchk_5 rfl (lv_at hl 1 rfl) ?_
    refine lv_icmp_lt (tgt := 16) hx hb dj_pchk_6 (by decide) (fun _ => ?_) (fun q => absurd hk q)
    refine lv_iload_n hx hb dj_pchk_16 rfl (lv_at hl 0 rfl) ?_
    exact jret_i hx hb hr rfl hlk ⟨rfl, rfl⟩ j_nil (Nat.le_refl _) (Nat.le_refl _) dj_pchk_17
  rcases hw with rfl | ⟨q, rfl⟩
  · exact jM.of (by decide +kernel) (Nat.le_of_ble_eq_true rfl) fun p e s m below meth c ls h hl => go p e s m below meth c ls h hl
  · exact jM.of (by decide +kernel) (Nat.le_of_ble_eq_true rfl) fun p e s m below meth c ls h hl => go p e s m below meth c ls h hl
abbrev jFm (A : Nat → Prop) (U : State) (H : Heap) : Prop := va_Zq "jdk/internal/util/Preconditions" "SIOOBE_FORMATTER" "Ljava/util/function/BiFunction;" A U H
theorem mj_schk {i k : Int32} (hF : jFm A u0 H0) (h0 : ¬ i < 0) (hk : i < k) : jM l jy_schk jc_schk 2 jr_schk 1 22 0 0 u0 H0 [.int i, .int k] jNo (fun v H => v = none ∧ H = H0) := by
  refine jM.of (by decide +kernel) (Nat.le_of_ble_eq_true rfl) ?_
  rintro p e s m below meth c ls ⟨hx, hb, hr, hml, hts, hown, hlk, hal, rfl⟩ hl
  have hl : lv_has ls 2 [(0, .int i), (1, .int k)] := hl
  obtain ⟨w, hw, h1⟩ : ∃ w : Value, (w = .null ∨ ∃ q : Nat, w = .ref q) ∧ va_Z "jdk/internal/util/Preconditions" "SIOOBE_FORMATTER" "Ljava/util/function/BiFunction;" w jNo s s.heap := by
    rcases (va_Zq.moved hal hF).narrow (B := jNo) (fun _ q => q.elim) with h | ⟨q, h⟩
    · exact ⟨_, Or.inl rfl, h⟩
    · exact ⟨_, Or.inr ⟨q, rfl⟩, h⟩
  refine lv_iload_n hx hb dj_schk_0 rfl (lv_at hl 0 rfl) ?_
  refine lv_iload_n hx hb dj_schk_1 rfl (lv_at hl 1 rfl) ?_
  refine va_gets hx hb h1 va_S.rf hown (hts _ j_w1018) (fun _ h => h) dj_schk_2 ?_
  refine jS (av := [.int i, .int k, w]) (rest := []) (k := 3) (ix := 1059) (mj_pchk l (u0 := s) (H0 := s.heap) hw h0 hk) hx hb (hml.trans hl.1.symm) hown hts (hts _ j_w1020) j_w1021 j_w22 j_w1022 (by decide) (by decide +kernel) rfl (by decide) (by decide) ⟨Nat.le_refl _, Nat.le_refl _⟩ (by decide) dj_schk_5 ?_
  rintro v H1 L ⟨rfl, rfl⟩ hL
  refine lv_pop hx hb dj_schk_8 rfl ?_
  exact jret_v hx hb hr hlk ⟨rfl, rfl⟩ hL (Nat.le_refl _) (Nat.le_refl _) dj_schk_9
/-- a byte that is a letter below 128 comes out as the letter -/
theorem j_byte : ∀ k, k < 128 → ((nI k &&& 255).toUInt32 % 65536).toInt32 = nI k := by decide +kernel
theorem j_char : ∀ k, k < 128 → narrow .char (.int (nI k)) = .int (nI k) := by decide +kernel
theorem mj_lch {i : Nat} {t : Nat → Nat} (hT : va_T .byte b n (fun j => .int (nI (t j))) A u0 H0) (hF : jFm A u0 H0) (hi : i < n) (hn : n < 2147483648) (ht : t i < 128) : jM l jy_lch jc_lch 2 jr_lch 2 43 0 0 u0 H0 [.ref b, .int (nI i)] jNo (fun v H => v = some (.int (nI (t i))) ∧ H = H0) := by
  refine jM.of (by decide +kernel) (Nat.le_of_ble_eq_true rfl) ?_
  rintro p e s m below meth c ls ⟨hx, hb, hr, hml, hts, hown, hlk, hal, rfl⟩ hl
  have hl : lv_has ls 2 [(0, .ref b), (1, .int (nI i))] := hl
  have h4 := (va_T.moved hal hT).narrow (B := jNo) (fun _ q => q.elim)
  refine lv_iload_n hx hb dj_lch_0 rfl (lv_at hl 1 rfl) ?_
  refine lv_aload_n hx hb dj_lch_1 rfl (lv_at hl 0 rfl) ?_
  refine va_tlen hx hb h4 va_S.rf rfl dj_lch_2 ?_
  refine jS (av := [.int (nI i), .int (Int32.ofNat n)]) (rest := []) (k := 2) (ix := 9) (mj_schk l (u0 := s) (H0 := s.heap) (va_Zq.moved hal hF) (nI_pos (by omega)) (nI_lt hi (by omega))) hx hb (hml.trans hl.1.symm) hown hts (hts _ j_w1015) j_w1016 j_w20 j_w1017 (by decide) (by decide +kernel) rfl (by decide) (by decide) ⟨Nat.le_refl _, Nat.le_refl _⟩ (by decide) dj_lch_3 ?_
  rintro v H1 L ⟨rfl, rfl⟩ hL
  refine lv_aload_n hx hb dj_lch_6 rfl (lv_at hl 0 rfl) ?_
  refine lv_iload_n hx hb dj_lch_7 rfl (lv_at hl 1 rfl) ?_
  obtain ⟨cell, g1, g2, g3, g4, g5, g6, -⟩ := h4
  refine W.bald (v := .int (nI (t i))) hx hb g1 g2 g3 (fun q => ?_) (by rw [nI_clamp (by omega)]; exact g6 i hi) rfl rfl dj_lch_8 ?_
  · rcases q with q | q
    · exact nI_pos (by omega) q
    · rw [nI_clamp (by omega)] at q; omega
  refine lv_sipush (v := 255) hx hb dj_lch_9 (by decide) ?_
  refine lv_iand hx hb dj_lch_12 ?_
  refine lv_i2c (v := nI (t i)) hx hb dj_lch_13 (j_byte _ ht) ?_
  exact jret_i hx hb hr (j_char _ ht) hlk ⟨rfl, rfl⟩ hL (Nat.le_refl _) (Nat.le_refl _) dj_lch_14
theorem mj_sch {i : Nat} {t : Nat → Nat} (hs : jStr a b n (fun j => nI (t j)) A u0 H0) (hF : jFm A u0 H0) (hi : i < n) (hn : n < 2147483648) (ht : t i < 128) : jM l jy_sch jc_sch 2 jr_sch 3 64 0 0 u0 H0 [.ref a, .int (nI i)] jNo (fun v H => v = some (.int (nI (t i))) ∧ H = H0) := by
  refine jM.of (by decide +kernel) (Nat.le_of_ble_eq_true rfl) ?_
  rintro p e s m below meth c ls ⟨hx, hb, hr, hml, hts, hown, hlk, hal, rfl⟩ hl
  have hl : lv_has ls 2 [(0, .ref a), (1, .int (nI i))] := hl
  have hs := (hs.moved hal).none
  obtain ⟨h1, h2, h3, h4, cell, h5, h6, h7, -⟩ := id hs
  refine lv_aload_n hx hb dj_sch_0 rfl (lv_at hl 0 rfl) ?_
  refine jV (C := "java/lang/String") (al := []) (rest := []) (k := 0) (ix := 492) (mj_slat l (u0 := s) (H0 := s.heap) hs) hx hb (hml.trans hl.1.symm) hown hts (hts _ j_w1008) j_w1009 j_w20 j_w1011 j_w1010 (by decide) (by decide +kernel) rfl h5 h6 h7 (by decide) (by decide) ⟨Nat.le_refl _, Nat.le_refl _⟩ (Nat.le_of_ble_eq_true rfl) dj_sch_1 ?_
  rintro v H1 L ⟨rfl, rfl⟩ hL
  refine lv_if_eq (tgt := 16) hx hb dj_sch_4 (by decide) (fun q => absurd q (by decide)) (fun _ => ?_)
  refine lv_aload_n hx hb dj_sch_7 rfl (lv_at hl 0 rfl) ?_
  refine vk_getf hx hb h2 ⟨Nat.le_refl _, fun _ _ _ => rfl, hL⟩ hown (hts _ j_w1367) (fun _ h => h) dj_sch_8 ?_
  refine lv_iload_n hx hb dj_sch_11 rfl (lv_at hl 1 rfl) ?_
  refine jS (av := [.ref b, .int (nI i)]) (rest := []) (k := 2) (ix := 495) (mj_lch l (u0 := s) (H0 := s.heap) h4 ((va_Zq.moved hal hF).narrow (B := jNo) (fun _ q => q.elim)) hi hn ht) hx hb (hml.trans hl.1.symm) hown hts (hts _ j_w1012) j_w1013 j_w21 j_w1014 (by decide) (by decide +kernel) rfl (by decide) (by decide) ⟨Nat.le_refl _, Nat.le_refl _⟩ (by decide) dj_sch_12 ?_
  rintro v H1 L2 ⟨rfl, rfl⟩ hL2
  refine jret_i hx hb hr (j_char _ ht) hlk ⟨rfl, rfl⟩ (fun q hq => ?_) (Nat.le_refl _) (Nat.le_refl _) dj_sch_15
  rcases List.mem_append.mp hq with h | h
  · exact hL q h
  · exact hL2 q h
end JS
end
section
/-! THE JDK's OWN METHODS: a StringBuilder of sixteen bytes -/
abbrev jy_ain : MethodName := ⟨"java/lang/AbstractStringBuilder", "<init>", "(I)V"⟩
abbrev jc_ain : ByteArray := prog_13_method_2_code
abbrev jr_ain : Option FieldType := (Option.none : Option Jvm.ClassFile.FieldType)
abbrev jy_bin : MethodName := ⟨"java/lang/StringBuilder", "<init>", "()V"⟩
abbrev jc_bin : ByteArray := prog_31_method_1_code
abbrev jr_bin : Option FieldType := (Option.none : Option Jvm.ClassFile.FieldType)
abbrev jy_ens : MethodName := ⟨"java/lang/AbstractStringBuilder", "ensureCapacityInternal", "(I)V"⟩
abbrev jc_ens : ByteArray := prog_13_method_9_code
abbrev jr_ens : Option FieldType := (Option.none : Option Jvm.ClassFile.FieldType)
abbrev jy_alat : MethodName := ⟨"java/lang/AbstractStringBuilder", "isLatin1", "()Z"⟩
abbrev jc_alat : ByteArray := prog_13_method_68_code
abbrev jr_alat : Option FieldType := (Option.some Jvm.ClassFile.FieldType.boolean)
abbrev jy_gva : MethodName := ⟨"java/lang/AbstractStringBuilder", "getValue", "()[B"⟩
abbrev jc_gva : ByteArray := prog_13_method_64_code
abbrev jr_gva : Option FieldType := (Option.some (Jvm.ClassFile.FieldType.array Jvm.ClassFile.FieldType.byte))
abbrev jy_alen : MethodName := ⟨"java/lang/AbstractStringBuilder", "length", "()I"⟩
abbrev jc_alen : ByteArray := prog_13_method_6_code
abbrev jr_alen : Option FieldType := (Option.some Jvm.ClassFile.FieldType.int)
theorem j_w1162 : Jvm.Cond.methodLink "java/lang/AbstractStringBuilder" (3 : Nat) ({ cls := "java/lang/Object", name := "<init>", desc := "()V" } : Jvm.MethodName) ∈ j_W := j_at_in (i := 1171) (by decide +kernel)
theorem j_w40 : Jvm.Cond.instanceMethod ({ cls := "java/lang/Object", name := "<init>", desc := "()V" } : Jvm.MethodName) ∈ j_W := j_at_in (i := 49) (by decide +kernel)
theorem j_w41 : Jvm.Cond.code ({ cls := "java/lang/Object", name := "<init>", desc := "()V" } : Jvm.MethodName) object_method_1_code (1 : Nat) (Option.none : Option Jvm.ClassFile.FieldType) ∈ j_W := j_at_in (i := 50) (by decide +kernel)
theorem j_w1163 : Jvm.Cond.fieldLink "java/lang/AbstractStringBuilder" (18 : Nat) "java/lang/String" "COMPACT_STRINGS" "Z" ∈ j_W := j_at_in (i := 1172) (by decide +kernel)
theorem j_w660 : Jvm.Cond.arrayClass Jvm.ClassFile.FieldType.byte ∈ j_W := j_at_in (i := 669) (by decide +kernel)
theorem j_w1171 : Jvm.Cond.fieldLink "java/lang/AbstractStringBuilder" (15 : Nat) "java/lang/AbstractStringBuilder" "value" "[B" ∈ j_W := j_at_in (i := 1180) (by decide +kernel)
theorem j_w1172 : Jvm.Cond.fieldLink "java/lang/AbstractStringBuilder" (22 : Nat) "java/lang/AbstractStringBuilder" "coder" "B" ∈ j_W := j_at_in (i := 1181) (by decide +kernel)
theorem j_w1159 : Jvm.Cond.methodLink "java/lang/StringBuilder" (1 : Nat) ({ cls := "java/lang/AbstractStringBuilder", name := "<init>", desc := "(I)V" } : Jvm.MethodName) ∈ j_W := j_at_in (i := 1168) (by decide +kernel)
theorem j_w1160 : Jvm.Cond.instanceMethod ({ cls := "java/lang/AbstractStringBuilder", name := "<init>", desc := "(I)V" } : Jvm.MethodName) ∈ j_W := j_at_in (i := 1169) (by decide +kernel)
theorem j_w28 : Jvm.Cond.initialized "java/lang/AbstractStringBuilder" ∈ j_W := j_at_in (i := 37) (by decide +kernel)
theorem j_w1161 : Jvm.Cond.code ({ cls := "java/lang/AbstractStringBuilder", name := "<init>", desc := "(I)V" } : Jvm.MethodName) prog_13_method_2_code (2 : Nat) (Option.none : Option Jvm.ClassFile.FieldType) ∈ j_W := j_at_in (i := 1170) (by decide +kernel)
theorem j_w1174 : Jvm.Cond.fieldLink "java/lang/AbstractStringBuilder" (79 : Nat) "java/lang/AbstractStringBuilder" "count" "I" ∈ j_W := j_at_in (i := 1183) (by decide +kernel)
theorem dj_ain_0 : decode jc_ain 0 = .ok (.aload_n 0, 1) := by decide +kernel
theorem dj_ain_1 : decode jc_ain 1 = .ok (.invokespecial 3, 3) := by decide +kernel
theorem dj_ain_4 : decode jc_ain 4 = .ok (.getstatic 18, 3) := by decide +kernel
theorem dj_ain_7 : decode jc_ain 7 = .ok (.ifCond .eq 18, 3) := by decide +kernel
theorem dj_ain_10 : decode jc_ain 10 = .ok (.aload_n 0, 1) := by decide +kernel
theorem dj_ain_11 : decode jc_ain 11 = .ok (.iload_n 1, 1) := by decide +kernel
theorem dj_ain_12 : decode jc_ain 12 = .ok (.newarray .byte, 2) := by decide +kernel
theorem dj_ain_14 : decode jc_ain 14 = .ok (.putfield 15, 3) := by decide +kernel
theorem dj_ain_17 : decode jc_ain 17 = .ok (.aload_n 0, 1) := by decide +kernel
theorem dj_ain_18 : decode jc_ain 18 = .ok (.iconst 0, 1) := by decide +kernel
theorem dj_ain_19 : decode jc_ain 19 = .ok (.putfield 22, 3) := by decide +kernel
theorem dj_ain_22 : decode jc_ain 22 = .ok (.goto 16, 3) := by decide +kernel
theorem dj_ain_38 : decode jc_ain 38 = .ok (.return_, 1) := by decide +kernel
theorem dj_bin_0 : decode jc_bin 0 = .ok (.aload_n 0, 1) := by decide +kernel
theorem dj_bin_1 : decode jc_bin 1 = .ok (.bipush 16, 2) := by decide +kernel
theorem dj_bin_3 : decode jc_bin 3 = .ok (.invokespecial 1, 3) := by decide +kernel
theorem dj_bin_6 : decode jc_bin 6 = .ok (.return_, 1) := by decide +kernel
theorem dj_ens_0 : decode jc_ens 0 = .ok (.aload_n 0, 1) := by decide +kernel
theorem dj_ens_1 : decode jc_ens 1 = .ok (.getfield 15, 3) := by decide +kernel
theorem dj_ens_4 : decode jc_ens 4 = .ok (.arraylength, 1) := by decide +kernel
theorem dj_ens_5 : decode jc_ens 5 = .ok (.aload_n 0, 1) := by decide +kernel
theorem dj_ens_6 : decode jc_ens 6 = .ok (.getfield 22, 3) := by decide +kernel
theorem dj_ens_9 : decode jc_ens 9 = .ok (.ishr, 1) := by decide +kernel
theorem dj_ens_10 : decode jc_ens 10 = .ok (.istore_n 2, 1) := by decide +kernel
theorem dj_ens_11 : decode jc_ens 11 = .ok (.iload_n 1, 1) := by decide +kernel
theorem dj_ens_12 : decode jc_ens 12 = .ok (.iload_n 2, 1) := by decide +kernel
theorem dj_ens_13 : decode jc_ens 13 = .ok (.isub, 1) := by decide +kernel
theorem dj_ens_14 : decode jc_ens 14 = .ok (.ifCond .le 24, 3) := by decide +kernel
theorem dj_ens_38 : decode jc_ens 38 = .ok (.return_, 1) := by decide +kernel
theorem dj_alat_0 : decode jc_alat 0 = .ok (.getstatic 18, 3) := by decide +kernel
theorem dj_alat_3 : decode jc_alat 3 = .ok (.ifCond .eq 14, 3) := by decide +kernel
theorem dj_alat_6 : decode jc_alat 6 = .ok (.aload_n 0, 1) := by decide +kernel
theorem dj_alat_7 : decode jc_alat 7 = .ok (.getfield 22, 3) := by decide +kernel
theorem dj_alat_10 : decode jc_alat 10 = .ok (.ifCond .ne 7, 3) := by decide +kernel
theorem dj_alat_13 : decode jc_alat 13 = .ok (.iconst 1, 1) := by decide +kernel
theorem dj_alat_14 : decode jc_alat 14 = .ok (.goto 4, 3) := by decide +kernel
theorem dj_alat_18 : decode jc_alat 18 = .ok (.ireturn, 1) := by decide +kernel
theorem dj_gva_0 : decode jc_gva 0 = .ok (.aload_n 0, 1) := by decide +kernel
theorem dj_gva_1 : decode jc_gva 1 = .ok (.getfield 15, 3) := by decide +kernel
theorem dj_gva_4 : decode jc_gva 4 = .ok (.areturn, 1) := by decide +kernel
theorem dj_alen_0 : decode jc_alen 0 = .ok (.aload_n 0, 1) := by decide +kernel
theorem dj_alen_1 : decode jc_alen 1 = .ok (.getfield 79, 3) := by decide +kernel
theorem dj_alen_4 : decode jc_alen 4 = .ok (.ireturn, 1) := by decide +kernel
section JW2
variable {p : Program} {l : Launch} {e : Env} {R : Room} {s : State} {m : MethodId} {args : Array Value} {below : List Frame} {meth : Method} {c : Code} {H : Heap} {locs : List Loc} {cells slots : Nat} {Q : State → Prop} {pc : Nat} {ls : Array Slot} {cc : ByteArray} {post : Option Value → Heap → Prop} {A : Nat → Prop} {mc ms : Nat} {y : MethodName} {bc : ByteArray} {n fr lo : Nat} {ret : Option FieldType} {av : List Value} {own : String} {ix : Nat} {rest : List Value}
/-- a method that the receiver's class C answers with y where the reference names x -/
theorem jX {C : String} {x : MethodName} {xb : ByteArray} {xn : Nat} {xr : Option FieldType} {b : Nat} {cellB : Cell} {al : List Value} (hM : jM l y bc n ret fr lo mc ms s H (.ref b :: al) A post) (hx : p.tables.exec = Jvm.exec) (hb : c.code = cc) (hml : c.maxLocals = ls.size) (hown : s.vm.findClass own = some m.cls) (hts : ∀ w ∈ j_W, w.before args s = true)
    (w1 : (Cond.methodLink own ix x).before args s = true) (w2 : Cond.instanceMethod y ∈ j_W) (w3 : Cond.initialized y.cls ∈ j_W) (w4 : Cond.code y bc n ret ∈ j_W) (w5 : Cond.selects C x y ∈ j_W) (w6 : Cond.sameMethod x.cls x.cls x.name x.desc ∈ j_W) (w7 : Cond.instanceMethod x ∈ j_W) (w8 : Cond.code x xb xn xr ∈ j_W) (hmh : x.cls ≠ "java/lang/invoke/MethodHandle" ∧ x.cls ≠ "java/lang/invoke/VarHandle") {k : Nat} (hd : (parseMethodDescriptor x.desc).map (fun d => d.parameters.length) = some k) (hk : al.length = k)
    (hcell : H[b]? = some cellB) (hobj : cellB.vm.isStatics = false) (hcls : s.vm.findClass C = some cellB.cls)
    (hfr : fr + 1 ≤ R.frames) (hlo : lo + n + 19 ≤ R.locals) (hf : cells + mc ≤ R.cells ∧ slots + ms ≤ R.slots) (hW : (rest.map fun v => v.category).sum ≤ 8) (hdg : decode cc pc = .ok (.invokevirtual ix, 3))
    (kk : jKK p l e R s m args below meth c locs cells slots Q A post mc ms pc ls rest) : W p l e R s m args below meth c H locs cells slots Q (F0 m pc ls (al.reverse ++ .ref b :: rest)) := by
  refine j_go (av := .ref b :: al) (rest := rest) (fun T hT X => ?_) kk
  exact va_callVU X hx (C := C) (owner := x.cls) (x := x) (y := y) (bytes := bc) (maxL := n) (ret := ret) hown w1 (hts _ w6) (va_Decl.of (hts _ w7) (hts _ w8)) hmh (hts _ w5) (hts _ w2) (hts _ w4) (j_back hM w4 w3 hts hfr hlo) (by rw [hT]; exact hcell) hobj hcls (g := F0 m pc ls (al.reverse ++ .ref b :: rest)) rfl hml.symm (argsL := al) (rest := rest) (fun sig h => by rw [h] at hd; exact hk.trans (Option.some.inj hd).symm) rfl (lv_room hW) (by rw [hb]; exact hdg) (j_pre hf T hT)
/-- super.m(..) -/
theorem jSU {b : Nat} {cellB : Cell} {kB : Class} {al : List Value} (hM : jM l y bc n ret fr lo mc ms s H (.ref b :: al) A post) (hx : p.tables.exec = Jvm.exec) (hb : c.code = cc) (hml : c.maxLocals = ls.size) (hown : s.vm.findClass own = some m.cls) (hts : ∀ w ∈ j_W, w.before args s = true)
    (w1 : (Cond.methodLink own ix y).before args s = true) (w2 : Cond.instanceMethod y ∈ j_W) (w3 : Cond.initialized y.cls ∈ j_W) (w4 : Cond.code y bc n ret ∈ j_W) (w5 : Cond.superclass own y.cls ∈ j_W) (w6 : Cond.sameMethod y.cls y.cls y.name y.desc ∈ j_W) (hno : y.name ≠ "<init>") {k : Nat} (hd : (parseMethodDescriptor y.desc).map (fun d => d.parameters.length) = some k) (hk : al.length = k)
    (hcell : H[b]? = some cellB) (hobj : cellB.vm.isStatics = false) (hkB : s.vm.classes[cellB.cls]? = some kB)
    (hfr : fr + 1 ≤ R.frames) (hlo : lo + n + 19 ≤ R.locals) (hf : cells + mc ≤ R.cells ∧ slots + ms ≤ R.slots) (hW : (rest.map fun v => v.category).sum ≤ 8) (hdg : decode cc pc = .ok (.invokespecial ix, 3))
    (kk : jKK p l e R s m args below meth c locs cells slots Q A post mc ms pc ls rest) : W p l e R s m args below meth c H locs cells slots Q (F0 m pc ls (al.reverse ++ .ref b :: rest)) := by
  refine j_go (av := .ref b :: al) (rest := rest) (fun T hT X => ?_) kk
  exact va_callSU X hx (bytes := bc) (maxL := n) (ret := ret) hown w1 (hts _ w6) (hts _ w5) (hts _ w2) (hts _ w4) hno (j_back hM w4 w3 hts hfr hlo) (by rw [hT]; exact hcell) hobj hkB (g := F0 m pc ls (al.reverse ++ .ref b :: rest)) rfl hml.symm (argsL := al) (rest := rest) (fun sig h => by rw [h] at hd; exact hk.trans (Option.some.inj hd).symm) rfl (lv_room hW) (by rw [hb]; exact hdg) (j_pre hf T hT)
/-- a private method answers itself, whatever the receiver's class -/
theorem j_selp {C : String} {k : Nat} (hy : y.cls ≠ "java/lang/invoke/MethodHandle" ∧ y.cls ≠ "java/lang/invoke/VarHandle") (hins : (Cond.instantiable C k).before args s = true) (hsame : (Cond.sameMethod y.cls y.cls y.name y.desc).before args s = true) (hpriv : (Cond.privateMethod y).before args s = true) (hinst : (Cond.instanceMethod y).before args s = true) : (Cond.selects C y y).before args s = true := by
  obtain ⟨c0, k0, hc, hk, -, hniab, -, -⟩ := Cond.instantiable_spec hins
  obtain ⟨mk, methM, hnamed, hmethM, -, -⟩ := Cond.instanceMethod_spec hinst
  have hfound : s.methodFound? y.cls y.name y.desc = some mk := State.methodFound?_of_named hnamed hy
  obtain ⟨cn, ck, r, h1, h2, h3, h4, h5⟩ := Cond.sameMethod_found hsame
  have hcls : mk.cls = cn := Option.some.inj ((findClass_of_methodNamed hnamed).symm.trans h1)
  have hsel : selectMethod {} s.vm c0 mk = .method mk := selectMethod_private hmethM (Cond.privateMethod_at hpriv mk methM hnamed hmethM)
  simp only [Cond.before, Cond.holds, Cond.value, hc, hfound, hnamed, hsel, hcls, h2]
  simp; exact h3
end JW2
abbrev jcl : List vw_C := [(RJ4, TJ4, 4), (RJ0, TJ0, 4)]
theorem j_bw_ok : am_al2 (fun w i => j_at i w) (u_ws RJ4 TJ4 4) [1184, 1186, 1188, 1190] = true := by decide +kernel
theorem j_bw : ∀ w ∈ u_ws RJ4 TJ4 4, w ∈ j_W := fun w hw => by
  obtain ⟨i, hi⟩ := am_al2_in j_bw_ok w hw
  exact j_at_in hi
theorem j_tw_ok : am_al2 (fun w i => j_at i w) (u_ws RJ0 TJ0 4) [670, 672, 1378, 1380] = true := by decide +kernel
theorem j_tw : ∀ w ∈ u_ws RJ0 TJ0 4, w ∈ j_W := fun w hw => by
  obtain ⟨i, hi⟩ := am_al2_in j_tw_ok w hw
  exact j_at_in hi
abbrev jfs (d n : Nat) : List Value := [.ref d, .int 0, .int 0, .int (nI n)]
abbrev jw (b d : Nat) (cA : ClassId) (f : Nat → Int32) (n : Nat) : va_W := [(b, .inr (0, jfs d n)), (d, .inl (cA, 16, .inl f))]
abbrev jA (b d : Nat) : Nat → Prop := fun q => q = b ∨ q = d
theorem j_D {b d n : Nat} {cA : ClassId} {f : Nat → Int32} (h : b ≠ d) : va_D (jA b d) (jw b d cA f n) := by
  have key : ∀ (i : Nat) (x : Nat × va_E), (jw b d cA f n)[i]? = some x → (i = 0 ∧ x.1 = b) ∨ (i = 1 ∧ x.1 = d) := by
    intro i x hi
    match i, hi with
    | 0, hi => exact Or.inl ⟨rfl, by rw [← Option.some.inj hi]⟩
    | 1, hi => exact Or.inr ⟨rfl, by rw [← Option.some.inj hi]⟩
    | k + 2, hi => simp at hi
  refine ⟨fun i j x z hi hj e => ?_, fun i x hi => ?_⟩
  · rcases key i x hi with ⟨h1, h2⟩ | ⟨h1, h2⟩ <;> rcases key j z hj with ⟨h3, h4⟩ | ⟨h3, h4⟩
    · omega
    · exact absurd (h2.symm.trans (e.trans h4)) h
    · exact absurd (h4.symm.trans (e.symm.trans h2)) h
    · omega
  · rcases key i x hi with ⟨-, h2⟩ | ⟨-, h2⟩
    · exact Or.inl h2
    · exact Or.inr h2
def jB (D : va_G) (cA : ClassId) (b d n : Nat) (f : Nat → Int32) (U : State) (H : Heap) : Prop := va_K D jcl [(cA, .byte)] U ∧ va_P D jcl (jw b d cA f n) H ∧ b ≠ d ∧ va_Z "java/lang/String" "COMPACT_STRINGS" "Z" (.int 1) (jA b d) U H
theorem jB.moved {D : va_G} {cA : ClassId} {b d n : Nat} {f : Nat → Int32} {u U : State} {H : Heap} (hvm : u.vm.Alike U.vm) (h : jB D cA b d n f u H) : jB D cA b d n f U H := ⟨va_K.moved hvm h.1, h.2.1, h.2.2.1, va_Z.moved hvm h.2.2.2⟩
theorem jB.to {D : va_G} {cA : ClassId} {b d n n' : Nat} {f f' : Nat → Int32} {U : State} {H H1 : Heap} (h : jB D cA b d n f U H) (hP : va_P D jcl (jw b d cA f' n') H1) (hS : va_S (jA b d) H H1 []) : jB D cA b d n' f' U H1 := ⟨h.1, hP, h.2.2.1, h.2.2.2.kept hS.2.1⟩
theorem j_cell {D : va_G} {tys : List (ClassId × FieldType)} {ws : va_W} {b : Nat} {fs : List Value} {U : State} {H : Heap} (hK : va_K D jcl tys U) (hP : va_P D jcl ws H) (h0 : ws[0]? = some (b, .inr (0, fs))) : ∃ cell : Cell, H[b]? = some cell ∧ cell.vm.isStatics = false ∧ U.vm.findClass "java/lang/StringBuilder" = some cell.cls ∧ ∃ kC : Class, U.vm.classes[cell.cls]? = some kC := by
  obtain ⟨r, h1, cell, q1, q2, q3, -⟩ := hP 0 _ h0
  obtain ⟨-, g1, kC, g2, -⟩ := hK.1 0 _ rfl
  exact ⟨cell, q1, by rw [q3]; rfl, by rw [q2]; exact g1, kC, by rw [q2]; exact g2⟩
theorem jB.cell {D : va_G} {cA : ClassId} {b d n : Nat} {f : Nat → Int32} {U : State} {H : Heap} (h : jB D cA b d n f U H) : ∃ cell : Cell, H[b]? = some cell ∧ cell.vm.isStatics = false ∧ U.vm.findClass "java/lang/StringBuilder" = some cell.cls ∧ ∃ kC : Class, U.vm.classes[cell.cls]? = some kC := j_cell h.1 h.2.1 rfl
/-- writing behind writing -/
theorem va_S.then {A : Nat → Prop} {H0 H1 H2 : Heap} {l1 l2 : List Loc} (h : va_S A H0 H1 l1) (h' : va_S A H1 H2 l2) : va_S A H0 H2 (l1 ++ l2) :=
  ⟨Nat.le_trans h.1 h'.1, fun q q1 q2 => (h'.2.1 q (Nat.lt_of_lt_of_le q1 h.1) q2).trans (h.2.1 q q1 q2), fun q hq => (List.mem_append.mp hq).elim (h.2.2 q) (h'.2.2 q)⟩
theorem va_S.locs {A : Nat → Prop} {H0 H1 : Heap} {l1 L : List Loc} (h : va_S A H0 H1 []) (h' : ∀ q ∈ l1, A q.base) (hL : ∀ q ∈ L, A q.base) : va_S A H0 H1 (l1 ++ L) :=
  ⟨h.1, h.2.1, fun q hq => (List.mem_append.mp hq).elim (h' q) (hL q)⟩
theorem va_S.bare {A : Nat → Prop} {H0 H1 : Heap} {l1 : List Loc} (h : va_S A H0 H1 l1) : va_S A H0 H1 [] := ⟨h.1, h.2.1, fun q hq => absurd hq List.not_mem_nil⟩
section JB1
variable (l : Launch) {u0 : State} {H0 : Heap} {D : va_G} {cA : ClassId} {b d n : Nat} {f : Nat → Int32}
/-- the bytes are laid -/
theorem mj_ain (hK : va_K D jcl [(cA, .byte)] u0) (hP : va_P D jcl [(b, .inr (0, [.null, .int 0, .int 0, .int 0]))] H0) (hZ : va_Z "java/lang/String" "COMPACT_STRINGS" "Z" (.int 1) (fun q => q = b ∨ H0.size ≤ q) u0 H0) : jM l jy_ain jc_ain 2 jr_ain 1 12 1 16 u0 H0 [.ref b, .int 16] (fun q => q = b ∨ H0.size ≤ q) (fun v H1 => v = none ∧ ∃ d, H0.size ≤ d ∧ va_P D jcl (jw b d cA (fun _ => 0) 0) H1 ∧ va_S (fun q => q = b ∨ H0.size ≤ q) H0 H1 []) := by
  refine jM.of (by decide +kernel) (Nat.le_of_ble_eq_true rfl) ?_
  rintro p e s m below meth c ls ⟨hx, hb, hr, hml, hts, hown, hlk, hal, rfl⟩ hl
  have hl : lv_has ls 2 [(0, .ref b), (1, .int 16)] := hl
  have hK := va_K.moved hal hK
  have hZ := va_Z.moved hal hZ
  have hlt := (hP 0 _ rfl).lt
  have hA : ∀ q : Nat, s.heap.size ≤ q → (fun q => q = b ∨ s.heap.size ≤ q) q := fun q h => Or.inr h
  refine lv_aload_n hx hb dj_ain_0 rfl (lv_at hl 0 rfl) ?_
  refine W.objInit hx hb hown (hts _ j_w1162) (hts _ j_w40) (hts _ j_w41) rfl (hml.trans hl.1.symm).symm rfl dj_ain_1 (by decide) (Nat.le_of_ble_eq_true rfl) ?_
  show W p l e _ s m _ below meth c s.heap [] 0 0 _ (F0 m 4 ls [])
  refine va_gets hx hb hZ va_S.rf hown (hts _ j_w1163) (fun _ h => h) dj_ain_4 ?_
  refine lv_if_eq (tgt := 25) hx hb dj_ain_7 (by decide) (fun q => absurd q (by decide)) (fun _ => ?_)
  refine lv_aload_n hx hb dj_ain_10 rfl (lv_at hl 0 rfl) ?_
  refine lv_iload_n hx hb dj_ain_11 rfl (lv_at hl 1 rfl) ?_
  refine va_newaK hx hb (atype := .byte) (hts _ j_w660) rfl dj_ain_12 rfl (n := 16) (N := 16) (by decide) (by decide) (by decide) (by decide) (by decide) rfl fun H1 cA' e1 z1 o1 _ hNm => ?_
  rw [show cA' = cA from Option.some.inj (hNm.symm.trans (hK.2 0 _ rfl).2)] at e1
  have hbq : b ≠ s.heap.size := by have : b < s.heap.size := hlt; omega
  have hP : va_P D jcl [(b, .inr (0, [.null, .int 0, .int 0, .int 0])), (s.heap.size, .inl (cA, 16, .inl (fun _ => 0)))] H1 := by
    intro i x hi
    match i, hi with
    | 0, hi =>
      have h0 := hP 0 _ rfl
      cases hi
      exact h0.kept (o1 b hlt)
    | 1, hi => cases hi; exact e1
    | k + 2, hi => simp at hi
  have hS : va_S (fun q => q = b ∨ s.heap.size ≤ q) s.heap H1 [] := ⟨by omega, fun q q1 _ => o1 q q1, fun q hq => absurd hq List.not_mem_nil⟩
  have hD : va_D (fun q => q = b ∨ s.heap.size ≤ q) [(b, .inr (0, [.null, .int 0, .int 0, .int 0])), (s.heap.size, .inl (cA, 16, .inl (fun _ => 0)))] := by
    have key : ∀ (i : Nat) (x : Nat × va_E), ([(b, .inr (0, [.null, .int 0, .int 0, .int 0])), (s.heap.size, .inl (cA, 16, .inl (fun _ => 0)))] : va_W)[i]? = some x → (i = 0 ∧ x.1 = b) ∨ (i = 1 ∧ x.1 = s.heap.size) := by
      intro i x hi
      match i, hi with
      | 0, hi => exact Or.inl ⟨rfl, by rw [← Option.some.inj hi]⟩
      | 1, hi => exact Or.inr ⟨rfl, by rw [← Option.some.inj hi]⟩
      | k + 2, hi => simp at hi
    refine ⟨fun i j x z hi hj e => ?_, fun i x hi => ?_⟩
    · rcases key i x hi with ⟨h1, h2⟩ | ⟨h1, h2⟩ <;> rcases key j z hj with ⟨h3, h4⟩ | ⟨h3, h4⟩
      · omega
      · exact absurd (h2.symm.trans (e.trans h4)) hbq
      · exact absurd (h4.symm.trans (e.symm.trans h2)) hbq
      · omega
    · rcases key i x hi with ⟨-, h2⟩ | ⟨-, h2⟩
      · exact Or.inl h2
      · exact Or.inr (Nat.le_of_eq h2.symm)
  show W p l e _ s m _ below meth c H1 [] 1 16 _ (F0 m 14 ls [.ref s.heap.size, .ref b])
  refine va_put (C := RJ4) (T := TJ4) (N := 4) (ci := 0) hx hb hts j_bw tyJ4 tyJ4_ok nmJ4 hown hK hP hD hS 0 rfl rfl 0 (by decide) (hts _ j_w1171) (fun _ h => h) rfl (ty := .array .byte) (v := .ref s.heap.size) (by decide +kernel) rfl rfl (show (0 : Nat) < 4 by decide) dj_ain_14 (fun H2 locs2 hP hD hS => ?_)
  refine lv_aload_n hx hb dj_ain_17 rfl (lv_at hl 0 rfl) ?_
  refine lv_iconst (v := 0) hx hb dj_ain_18 (by decide) ?_
  refine va_put (C := RJ4) (T := TJ4) (N := 4) (ci := 0) hx hb hts j_bw tyJ4 tyJ4_ok nmJ4 hown hK hP hD hS 0 rfl rfl 1 (by decide) (hts _ j_w1172) (fun _ h => h) rfl (ty := .byte) (v := .int 0) (by decide +kernel) rfl rfl (show (1 : Nat) < 4 by decide) dj_ain_19 (fun H3 locs3 hP hD hS => ?_)
  refine lv_goto (tgt := 38) hx hb dj_ain_22 (by decide) ?_
  exact jret_v hx hb hr hlk ⟨rfl, s.heap.size, Nat.le_refl _, hP, hS.bare⟩ hS.2.2 (by decide) (by decide) dj_ain_38
theorem mj_bin (hK : va_K D jcl [(cA, .byte)] u0) (hP : va_P D jcl [(b, .inr (0, [.null, .int 0, .int 0, .int 0]))] H0) (hZ : va_Z "java/lang/String" "COMPACT_STRINGS" "Z" (.int 1) (fun q => q = b ∨ H0.size ≤ q) u0 H0) : jM l jy_bin jc_bin 1 jr_bin 2 33 1 16 u0 H0 [.ref b] (fun q => q = b ∨ H0.size ≤ q) (fun v H1 => v = none ∧ ∃ d, H0.size ≤ d ∧ va_P D jcl (jw b d cA (fun _ => 0) 0) H1 ∧ va_S (fun q => q = b ∨ H0.size ≤ q) H0 H1 []) := by
  refine jM.of (by decide +kernel) (Nat.le_of_ble_eq_true rfl) ?_
  rintro p e s m below meth c ls ⟨hx, hb, hr, hml, hts, hown, hlk, hal, rfl⟩ hl
  have hl : lv_has ls 1 [(0, .ref b)] := hl
  refine lv_aload_n hx hb dj_bin_0 rfl (lv_at hl 0 rfl) ?_
  refine lv_bipush (v := 16) hx hb dj_bin_1 (by decide) ?_
  refine jI (al := [.int 16]) (rest := []) (k := 1) (ix := 1) (mj_ain l (u0 := s) (H0 := s.heap) (va_K.moved hal hK) hP (va_Z.moved hal hZ)) hx hb (hml.trans hl.1.symm) hown hts rfl (hts _ j_w1159) j_w1160 j_w28 j_w1161 (by decide) (by decide +kernel) rfl (by decide) (by decide) (by decide) (by decide) dj_bin_3 ?_
  rintro v H1 L ⟨rfl, d, h1, h2, h3⟩ hL
  exact jret_v hx hb hr hlk ⟨rfl, d, h1, h2, h3⟩ hL (by decide) (by decide) dj_bin_6
theorem j_le16 : ∀ k, k ≤ 16 → nI k - nI 16 ≤ 0 := by decide +kernel
theorem mj_ens {k : Nat} (hB : jB D cA b d n f u0 H0) (hk : k ≤ 16) : jM l jy_ens jc_ens 3 jr_ens 0 0 0 0 u0 H0 [.ref b, .int (nI k)] jNo (fun v H => v = none ∧ H = H0) := by
  refine jM.of (by decide +kernel) (Nat.le_of_ble_eq_true rfl) ?_
  rintro p e s m below meth c ls ⟨hx, hb, hr, hml, hts, hown, hlk, hal, rfl⟩ hl
  have hl : lv_has ls 3 [(0, .ref b), (1, .int (nI k))] := hl
  obtain ⟨hK, hP, -, -⟩ := hB.moved hal
  refine lv_aload_n hx hb dj_ens_0 rfl (lv_at hl 0 rfl) ?_
  refine va_get (C := RJ4) (T := TJ4) (N := 4) (ci := 0) (v := .ref d) hx hb hts j_bw hown hK hP 0 rfl rfl 0 (by decide) (hts _ j_w1171) (fun _ h => h) rfl dj_ens_1 ?_
  refine va_alen hx hb hK hP 1 0 rfl rfl (v := nI 16) rfl dj_ens_4 ?_
  refine lv_aload_n hx hb dj_ens_5 rfl (lv_at hl 0 rfl) ?_
  refine va_get (C := RJ4) (T := TJ4) (N := 4) (ci := 0) (v := .int 0) hx hb hts j_bw hown hK hP 0 rfl rfl 1 (by decide) (hts _ j_w1172) (fun _ h => h) rfl dj_ens_6 ?_
  refine lv_ishr hx hb dj_ens_9 ?_
  rw [sb_shr0]
  refine lv_istore_n (lv' := [(2, .int (nI 16)), (0, .ref b), (1, .int (nI k))]) hx hb dj_ens_10 rfl hl (by decide) rfl (fun ls hl => ?_)
  refine lv_iload_n hx hb dj_ens_11 rfl (lv_at hl 2 rfl) ?_
  refine lv_iload_n hx hb dj_ens_12 rfl (lv_at hl 0 rfl) ?_
  refine lv_isub hx hb dj_ens_13 ?_
  refine lv_if_le (tgt := 38) hx hb dj_ens_14 (by decide) (fun _ => ?_) (fun q => absurd (j_le16 k hk) q)
  exact jret_v hx hb hr hlk ⟨rfl, rfl⟩ j_nil (Nat.le_refl _) (Nat.le_refl _) dj_ens_38
theorem mj_alat (hB : jB D cA b d n f u0 H0) : jM l jy_alat jc_alat 1 jr_alat 0 0 0 0 u0 H0 [.ref b] jNo (fun v H => v = some (.int 1) ∧ H = H0) := by
  refine jM.of (by decide +kernel) (Nat.le_of_ble_eq_true rfl) ?_
  rintro p e s m below meth c ls ⟨hx, hb, hr, hml, hts, hown, hlk, hal, rfl⟩ hl
  have hl : lv_has ls 1 [(0, .ref b)] := hl
  obtain ⟨hK, hP, -, hZ⟩ := hB.moved hal
  refine va_gets hx hb hZ va_S.rf hown (hts _ j_w1163) (fun _ h => h) dj_alat_0 ?_
  refine lv_if_eq (tgt := 17) hx hb dj_alat_3 (by decide) (fun q => absurd q (by decide)) (fun _ => ?_)
  refine lv_aload_n hx hb dj_alat_6 rfl (lv_at hl 0 rfl) ?_
  refine va_get (C := RJ4) (T := TJ4) (N := 4) (ci := 0) (v := .int 0) hx hb hts j_bw hown hK hP 0 rfl rfl 1 (by decide) (hts _ j_w1172) (fun _ h => h) rfl dj_alat_7 ?_
  refine lv_if_ne (tgt := 17) hx hb dj_alat_10 (by decide) (fun q => absurd rfl q) (fun _ => ?_)
  refine lv_iconst (v := 1) hx hb dj_alat_13 (by decide) ?_
  refine lv_goto (tgt := 18) hx hb dj_alat_14 (by decide) ?_
  exact jret_i hx hb hr rfl hlk ⟨rfl, rfl⟩ j_nil (Nat.le_refl _) (Nat.le_refl _) dj_alat_18
theorem mj_gva (hB : jB D cA b d n f u0 H0) : jM l jy_gva jc_gva 1 jr_gva 0 0 0 0 u0 H0 [.ref b] jNo (fun v H => v = some (.ref d) ∧ H = H0) := by
  refine jM.of (by decide +kernel) (Nat.le_of_ble_eq_true rfl) ?_
  rintro p e s m below meth c ls ⟨hx, hb, hr, hml, hts, hown, hlk, hal, rfl⟩ hl
  have hl : lv_has ls 1 [(0, .ref b)] := hl
  obtain ⟨hK, hP, -, hZ⟩ := hB.moved hal
  refine lv_aload_n hx hb dj_gva_0 rfl (lv_at hl 0 rfl) ?_
  refine va_get (C := RJ4) (T := TJ4) (N := 4) (ci := 0) (v := .ref d) hx hb hts j_bw hown hK hP 0 rfl rfl 0 (by decide) (hts _ j_w1171) (fun _ h => h) rfl dj_gva_1 ?_
  exact jret_a hx hb hr (Or.inr ⟨_, rfl⟩) hlk ⟨rfl, rfl⟩ j_nil (Nat.le_refl _) (Nat.le_refl _) dj_gva_4
theorem mj_alen (hB : jB D cA b d n f u0 H0) : jM l jy_alen jc_alen 1 jr_alen 0 0 0 0 u0 H0 [.ref b] jNo (fun v H => v = some (.int (nI n)) ∧ H = H0) := by
  refine jM.of (by decide +kernel) (Nat.le_of_ble_eq_true rfl) ?_
  rintro p e s m below meth c ls ⟨hx, hb, hr, hml, hts, hown, hlk, hal, rfl⟩ hl
  have hl : lv_has ls 1 [(0, .ref b)] := hl
  obtain ⟨hK, hP, -, hZ⟩ := hB.moved hal
  refine lv_aload_n hx hb dj_alen_0 rfl (lv_at hl 0 rfl) ?_
  refine va_get (C := RJ4) (T := TJ4) (N := 4) (ci := 0) (v := .int (nI n)) hx hb hts j_bw hown hK hP 0 rfl rfl 3 (by decide) (hts _ j_w1174) (fun _ h => h) rfl dj_alen_1 ?_
  exact jret_i hx hb hr rfl hlk ⟨rfl, rfl⟩ j_nil (Nat.le_refl _) (Nat.le_refl _) dj_alen_4
end JB1
end
section
/-! THE JDK's OWN METHODS: a String behind a StringBuilder's letters -/
abbrev jy_inf : MethodName := ⟨"java/lang/AbstractStringBuilder", "inflateIfNeededFor", "(Ljava/lang/String;)V"⟩
abbrev jc_inf : ByteArray := prog_13_method_71_code
abbrev jr_inf : Option FieldType := (Option.none : Option Jvm.ClassFile.FieldType)
abbrev jy_put : MethodName := ⟨"java/lang/AbstractStringBuilder", "putStringAt", "(ILjava/lang/String;)V"⟩
abbrev jc_put : ByteArray := prog_13_method_73_code
abbrev jr_put : Option FieldType := (Option.none : Option Jvm.ClassFile.FieldType)
abbrev jy_gby : MethodName := ⟨"java/lang/String", "getBytes", "([BIB)V"⟩
abbrev jc_gby : ByteArray := prog_30_method_147_code
abbrev jr_gby : Option FieldType := (Option.none : Option Jvm.ClassFile.FieldType)
abbrev jy_aas : MethodName := ⟨"java/lang/AbstractStringBuilder", "append", "(Ljava/lang/String;)Ljava/lang/AbstractStringBuilder;"⟩
abbrev jc_aas : ByteArray := prog_13_method_22_code
abbrev jr_aas : Option FieldType := (Option.some (Jvm.ClassFile.FieldType.object "java/lang/AbstractStringBuilder"))
abbrev jy_bas : MethodName := ⟨"java/lang/StringBuilder", "append", "(Ljava/lang/String;)Ljava/lang/StringBuilder;"⟩
abbrev jc_bas : ByteArray := prog_31_method_7_code
abbrev jr_bas : Option FieldType := (Option.some (Jvm.ClassFile.FieldType.object "java/lang/StringBuilder"))
theorem j_w1258 : Jvm.Cond.methodLink "java/lang/AbstractStringBuilder" (40 : Nat) ({ cls := "java/lang/String", name := "coder", desc := "()B" } : Jvm.MethodName) ∈ j_W := j_at_in (i := 1267) (by decide +kernel)
theorem j_w1282 : Jvm.Cond.methodLink "java/lang/String" (212 : Nat) ({ cls := "java/lang/System", name := "arraycopy", desc := "(Ljava/lang/Object;ILjava/lang/Object;II)V" } : Jvm.MethodName) ∈ j_W := j_at_in (i := 1291) (by decide +kernel)
theorem j_w353 : Jvm.Cond.native ({ cls := "java/lang/System", name := "arraycopy", desc := "(Ljava/lang/Object;ILjava/lang/Object;II)V" } : Jvm.MethodName) ∈ j_W := j_at_in (i := 362) (by decide +kernel)
theorem j_w352 : Jvm.Cond.static ({ cls := "java/lang/System", name := "arraycopy", desc := "(Ljava/lang/Object;ILjava/lang/Object;II)V" } : Jvm.MethodName) ∈ j_W := j_at_in (i := 361) (by decide +kernel)
theorem j_w14 : Jvm.Cond.initialized "java/lang/System" ∈ j_W := j_at_in (i := 23) (by decide +kernel)
theorem j_w1254 : Jvm.Cond.methodLink "java/lang/AbstractStringBuilder" (397 : Nat) ({ cls := "java/lang/AbstractStringBuilder", name := "inflateIfNeededFor", desc := "(Ljava/lang/String;)V" } : Jvm.MethodName) ∈ j_W := j_at_in (i := 1263) (by decide +kernel)
theorem j_w1256 : Jvm.Cond.instanceMethod ({ cls := "java/lang/AbstractStringBuilder", name := "inflateIfNeededFor", desc := "(Ljava/lang/String;)V" } : Jvm.MethodName) ∈ j_W := j_at_in (i := 1265) (by decide +kernel)
theorem j_w1257 : Jvm.Cond.code ({ cls := "java/lang/AbstractStringBuilder", name := "inflateIfNeededFor", desc := "(Ljava/lang/String;)V" } : Jvm.MethodName) prog_13_method_71_code (2 : Nat) (Option.none : Option Jvm.ClassFile.FieldType) ∈ j_W := j_at_in (i := 1266) (by decide +kernel)
theorem j_w1396 : Jvm.Cond.sameMethod "java/lang/AbstractStringBuilder" "java/lang/AbstractStringBuilder" "inflateIfNeededFor" "(Ljava/lang/String;)V" ∈ j_W := j_at_in (i := 1405) (by decide +kernel)
theorem j_w1278 : Jvm.Cond.methodLink "java/lang/AbstractStringBuilder" (399 : Nat) ({ cls := "java/lang/String", name := "getBytes", desc := "([BIB)V" } : Jvm.MethodName) ∈ j_W := j_at_in (i := 1287) (by decide +kernel)
theorem j_w1279 : Jvm.Cond.instanceMethod ({ cls := "java/lang/String", name := "getBytes", desc := "([BIB)V" } : Jvm.MethodName) ∈ j_W := j_at_in (i := 1288) (by decide +kernel)
theorem j_w1281 : Jvm.Cond.code ({ cls := "java/lang/String", name := "getBytes", desc := "([BIB)V" } : Jvm.MethodName) prog_30_method_147_code (4 : Nat) (Option.none : Option Jvm.ClassFile.FieldType) ∈ j_W := j_at_in (i := 1290) (by decide +kernel)
theorem j_w1280 : Jvm.Cond.selects "java/lang/String" ({ cls := "java/lang/String", name := "getBytes", desc := "([BIB)V" } : Jvm.MethodName) ({ cls := "java/lang/String", name := "getBytes", desc := "([BIB)V" } : Jvm.MethodName) ∈ j_W := j_at_in (i := 1289) (by decide +kernel)
theorem j_w1249 : Jvm.Cond.methodLink "java/lang/AbstractStringBuilder" (32 : Nat) ({ cls := "java/lang/String", name := "length", desc := "()I" } : Jvm.MethodName) ∈ j_W := j_at_in (i := 1258) (by decide +kernel)
theorem j_w988 : Jvm.Cond.instanceMethod ({ cls := "java/lang/String", name := "length", desc := "()I" } : Jvm.MethodName) ∈ j_W := j_at_in (i := 997) (by decide +kernel)
theorem j_w990 : Jvm.Cond.code ({ cls := "java/lang/String", name := "length", desc := "()I" } : Jvm.MethodName) prog_30_method_54_code (1 : Nat) (Option.some Jvm.ClassFile.FieldType.int) ∈ j_W := j_at_in (i := 999) (by decide +kernel)
theorem j_w989 : Jvm.Cond.selects "java/lang/String" ({ cls := "java/lang/String", name := "length", desc := "()I" } : Jvm.MethodName) ({ cls := "java/lang/String", name := "length", desc := "()I" } : Jvm.MethodName) ∈ j_W := j_at_in (i := 998) (by decide +kernel)
theorem j_w1196 : Jvm.Cond.methodLink "java/lang/AbstractStringBuilder" (100 : Nat) ({ cls := "java/lang/AbstractStringBuilder", name := "ensureCapacityInternal", desc := "(I)V" } : Jvm.MethodName) ∈ j_W := j_at_in (i := 1205) (by decide +kernel)
theorem j_w1198 : Jvm.Cond.instanceMethod ({ cls := "java/lang/AbstractStringBuilder", name := "ensureCapacityInternal", desc := "(I)V" } : Jvm.MethodName) ∈ j_W := j_at_in (i := 1207) (by decide +kernel)
theorem j_w1199 : Jvm.Cond.code ({ cls := "java/lang/AbstractStringBuilder", name := "ensureCapacityInternal", desc := "(I)V" } : Jvm.MethodName) prog_13_method_9_code (3 : Nat) (Option.none : Option Jvm.ClassFile.FieldType) ∈ j_W := j_at_in (i := 1208) (by decide +kernel)
theorem j_w1393 : Jvm.Cond.sameMethod "java/lang/AbstractStringBuilder" "java/lang/AbstractStringBuilder" "ensureCapacityInternal" "(I)V" ∈ j_W := j_at_in (i := 1402) (by decide +kernel)
theorem j_w1250 : Jvm.Cond.methodLink "java/lang/AbstractStringBuilder" (208 : Nat) ({ cls := "java/lang/AbstractStringBuilder", name := "putStringAt", desc := "(ILjava/lang/String;)V" } : Jvm.MethodName) ∈ j_W := j_at_in (i := 1259) (by decide +kernel)
theorem j_w1252 : Jvm.Cond.instanceMethod ({ cls := "java/lang/AbstractStringBuilder", name := "putStringAt", desc := "(ILjava/lang/String;)V" } : Jvm.MethodName) ∈ j_W := j_at_in (i := 1261) (by decide +kernel)
theorem j_w1253 : Jvm.Cond.code ({ cls := "java/lang/AbstractStringBuilder", name := "putStringAt", desc := "(ILjava/lang/String;)V" } : Jvm.MethodName) prog_13_method_73_code (3 : Nat) (Option.none : Option Jvm.ClassFile.FieldType) ∈ j_W := j_at_in (i := 1262) (by decide +kernel)
theorem j_w1395 : Jvm.Cond.sameMethod "java/lang/AbstractStringBuilder" "java/lang/AbstractStringBuilder" "putStringAt" "(ILjava/lang/String;)V" ∈ j_W := j_at_in (i := 1404) (by decide +kernel)
theorem j_w1189 : Jvm.Cond.methodLink "java/lang/StringBuilder" (29 : Nat) ({ cls := "java/lang/AbstractStringBuilder", name := "append", desc := "(Ljava/lang/String;)Ljava/lang/AbstractStringBuilder;" } : Jvm.MethodName) ∈ j_W := j_at_in (i := 1198) (by decide +kernel)
theorem j_w1190 : Jvm.Cond.instanceMethod ({ cls := "java/lang/AbstractStringBuilder", name := "append", desc := "(Ljava/lang/String;)Ljava/lang/AbstractStringBuilder;" } : Jvm.MethodName) ∈ j_W := j_at_in (i := 1199) (by decide +kernel)
theorem j_w1191 : Jvm.Cond.code ({ cls := "java/lang/AbstractStringBuilder", name := "append", desc := "(Ljava/lang/String;)Ljava/lang/AbstractStringBuilder;" } : Jvm.MethodName) prog_13_method_22_code (3 : Nat) (Option.some (Jvm.ClassFile.FieldType.object "java/lang/AbstractStringBuilder")) ∈ j_W := j_at_in (i := 1200) (by decide +kernel)
theorem j_w1183 : Jvm.Cond.superclass "java/lang/StringBuilder" "java/lang/AbstractStringBuilder" ∈ j_W := j_at_in (i := 1192) (by decide +kernel)
theorem j_w1391 : Jvm.Cond.sameMethod "java/lang/AbstractStringBuilder" "java/lang/AbstractStringBuilder" "append" "(Ljava/lang/String;)Ljava/lang/AbstractStringBuilder;" ∈ j_W := j_at_in (i := 1400) (by decide +kernel)
theorem dj_inf_0 : decode jc_inf 0 = .ok (.getstatic 18, 3) := by decide +kernel
theorem dj_inf_3 : decode jc_inf 3 = .ok (.ifCond .eq 18, 3) := by decide +kernel
theorem dj_inf_6 : decode jc_inf 6 = .ok (.aload_n 0, 1) := by decide +kernel
theorem dj_inf_7 : decode jc_inf 7 = .ok (.getfield 22, 3) := by decide +kernel
theorem dj_inf_10 : decode jc_inf 10 = .ok (.aload_n 1, 1) := by decide +kernel
theorem dj_inf_11 : decode jc_inf 11 = .ok (.invokevirtual 40, 3) := by decide +kernel
theorem dj_inf_14 : decode jc_inf 14 = .ok (.if_icmp .eq 7, 3) := by decide +kernel
theorem dj_inf_21 : decode jc_inf 21 = .ok (.return_, 1) := by decide +kernel
theorem dj_gby_0 : decode jc_gby 0 = .ok (.aload_n 0, 1) := by decide +kernel
theorem dj_gby_1 : decode jc_gby 1 = .ok (.invokevirtual 335, 3) := by decide +kernel
theorem dj_gby_4 : decode jc_gby 4 = .ok (.iload_n 3, 1) := by decide +kernel
theorem dj_gby_5 : decode jc_gby 5 = .ok (.if_icmp .ne 23, 3) := by decide +kernel
theorem dj_gby_8 : decode jc_gby 8 = .ok (.aload_n 0, 1) := by decide +kernel
theorem dj_gby_9 : decode jc_gby 9 = .ok (.getfield 9, 3) := by decide +kernel
theorem dj_gby_12 : decode jc_gby 12 = .ok (.iconst 0, 1) := by decide +kernel
theorem dj_gby_13 : decode jc_gby 13 = .ok (.aload_n 1, 1) := by decide +kernel
theorem dj_gby_14 : decode jc_gby 14 = .ok (.iload_n 2, 1) := by decide +kernel
theorem dj_gby_15 : decode jc_gby 15 = .ok (.iload_n 3, 1) := by decide +kernel
theorem dj_gby_16 : decode jc_gby 16 = .ok (.ishl, 1) := by decide +kernel
theorem dj_gby_17 : decode jc_gby 17 = .ok (.aload_n 0, 1) := by decide +kernel
theorem dj_gby_18 : decode jc_gby 18 = .ok (.getfield 9, 3) := by decide +kernel
theorem dj_gby_21 : decode jc_gby 21 = .ok (.arraylength, 1) := by decide +kernel
theorem dj_gby_22 : decode jc_gby 22 = .ok (.invokestatic 212, 3) := by decide +kernel
theorem dj_gby_25 : decode jc_gby 25 = .ok (.goto 18, 3) := by decide +kernel
theorem dj_gby_43 : decode jc_gby 43 = .ok (.return_, 1) := by decide +kernel
theorem dj_put_0 : decode jc_put 0 = .ok (.aload_n 0, 1) := by decide +kernel
theorem dj_put_1 : decode jc_put 1 = .ok (.aload_n 2, 1) := by decide +kernel
theorem dj_put_2 : decode jc_put 2 = .ok (.invokevirtual 397, 3) := by decide +kernel
theorem dj_put_5 : decode jc_put 5 = .ok (.aload_n 2, 1) := by decide +kernel
theorem dj_put_6 : decode jc_put 6 = .ok (.aload_n 0, 1) := by decide +kernel
theorem dj_put_7 : decode jc_put 7 = .ok (.getfield 15, 3) := by decide +kernel
theorem dj_put_10 : decode jc_put 10 = .ok (.iload_n 1, 1) := by decide +kernel
theorem dj_put_11 : decode jc_put 11 = .ok (.aload_n 0, 1) := by decide +kernel
theorem dj_put_12 : decode jc_put 12 = .ok (.getfield 22, 3) := by decide +kernel
theorem dj_put_15 : decode jc_put 15 = .ok (.invokevirtual 399, 3) := by decide +kernel
theorem dj_put_18 : decode jc_put 18 = .ok (.return_, 1) := by decide +kernel
theorem dj_aas_0 : decode jc_aas 0 = .ok (.aload_n 1, 1) := by decide +kernel
theorem dj_aas_1 : decode jc_aas 1 = .ok (.ifnonnull 8, 3) := by decide +kernel
theorem dj_aas_9 : decode jc_aas 9 = .ok (.aload_n 1, 1) := by decide +kernel
theorem dj_aas_10 : decode jc_aas 10 = .ok (.invokevirtual 32, 3) := by decide +kernel
theorem dj_aas_13 : decode jc_aas 13 = .ok (.istore_n 2, 1) := by decide +kernel
theorem dj_aas_14 : decode jc_aas 14 = .ok (.aload_n 0, 1) := by decide +kernel
theorem dj_aas_15 : decode jc_aas 15 = .ok (.aload_n 0, 1) := by decide +kernel
theorem dj_aas_16 : decode jc_aas 16 = .ok (.getfield 79, 3) := by decide +kernel
theorem dj_aas_19 : decode jc_aas 19 = .ok (.iload_n 2, 1) := by decide +kernel
theorem dj_aas_20 : decode jc_aas 20 = .ok (.iadd, 1) := by decide +kernel
theorem dj_aas_21 : decode jc_aas 21 = .ok (.invokevirtual 100, 3) := by decide +kernel
theorem dj_aas_24 : decode jc_aas 24 = .ok (.aload_n 0, 1) := by decide +kernel
theorem dj_aas_25 : decode jc_aas 25 = .ok (.aload_n 0, 1) := by decide +kernel
theorem dj_aas_26 : decode jc_aas 26 = .ok (.getfield 79, 3) := by decide +kernel
theorem dj_aas_29 : decode jc_aas 29 = .ok (.aload_n 1, 1) := by decide +kernel
theorem dj_aas_30 : decode jc_aas 30 = .ok (.invokevirtual 208, 3) := by decide +kernel
theorem dj_aas_33 : decode jc_aas 33 = .ok (.aload_n 0, 1) := by decide +kernel
theorem dj_aas_34 : decode jc_aas 34 = .ok (.dup, 1) := by decide +kernel
theorem dj_aas_35 : decode jc_aas 35 = .ok (.getfield 79, 3) := by decide +kernel
theorem dj_aas_38 : decode jc_aas 38 = .ok (.iload_n 2, 1) := by decide +kernel
theorem dj_aas_39 : decode jc_aas 39 = .ok (.iadd, 1) := by decide +kernel
theorem dj_aas_40 : decode jc_aas 40 = .ok (.putfield 79, 3) := by decide +kernel
theorem dj_aas_43 : decode jc_aas 43 = .ok (.aload_n 0, 1) := by decide +kernel
theorem dj_aas_44 : decode jc_aas 44 = .ok (.areturn, 1) := by decide +kernel
theorem dj_bas_0 : decode jc_bas 0 = .ok (.aload_n 0, 1) := by decide +kernel
theorem dj_bas_1 : decode jc_bas 1 = .ok (.aload_n 1, 1) := by decide +kernel
theorem dj_bas_2 : decode jc_bas 2 = .ok (.invokespecial 29, 3) := by decide +kernel
theorem dj_bas_5 : decode jc_bas 5 = .ok (.pop, 1) := by decide +kernel
theorem dj_bas_6 : decode jc_bas 6 = .ok (.aload_n 0, 1) := by decide +kernel
theorem dj_bas_7 : decode jc_bas 7 = .ok (.areturn, 1) := by decide +kernel
theorem j_X_ens : Cond.selects "java/lang/StringBuilder" jy_ens jy_ens ∈ j_X := List.mem_cons_self
theorem j_X_inf : Cond.selects "java/lang/StringBuilder" jy_inf jy_inf ∈ j_X := List.mem_cons_of_mem _ List.mem_cons_self
theorem j_X_put : Cond.selects "java/lang/StringBuilder" jy_put jy_put ∈ j_X := List.mem_cons_of_mem _ (List.mem_cons_of_mem _ List.mem_cons_self)
section JA1
variable (l : Launch) {u0 : State} {H0 : Heap} {D : va_G} {cA : ClassId} {b d n a z w : Nat} {f g : Nat → Int32}
theorem mj_inf (hB : jB D cA b d n f u0 H0) (hs : jStr a z w g (jA b d) u0 H0) : jM l jy_inf jc_inf 2 jr_inf 1 20 0 0 u0 H0 [.ref b, .ref a] jNo (fun v H => v = none ∧ H = H0) := by
  refine jM.of (by decide +kernel) (Nat.le_of_ble_eq_true rfl) ?_
  rintro p e s m below meth c ls ⟨hx, hb, hr, hml, hts, hown, hlk, hal, rfl⟩ hl
  have hl : lv_has ls 2 [(0, .ref b), (1, .ref a)] := hl
  obtain ⟨hK, hP, -, hZ⟩ := hB.moved hal
  have hs := hs.moved hal
  obtain ⟨-, -, -, -, cell, h5, h6, h7, -⟩ := id hs
  refine va_gets hx hb hZ va_S.rf hown (hts _ j_w1163) (fun _ h => h) dj_inf_0 ?_
  refine lv_if_eq (tgt := 21) hx hb dj_inf_3 (by decide) (fun q => absurd q (by decide)) (fun _ => ?_)
  refine lv_aload_n hx hb dj_inf_6 rfl (lv_at hl 0 rfl) ?_
  refine va_get (C := RJ4) (T := TJ4) (N := 4) (ci := 0) (v := .int 0) hx hb hts j_bw hown hK hP 0 rfl rfl 1 (by decide) (hts _ j_w1172) (fun _ h => h) rfl dj_inf_7 ?_
  refine lv_aload_n hx hb dj_inf_10 rfl (lv_at hl 1 rfl) ?_
  refine jV (C := "java/lang/String") (al := []) (rest := [.int 0]) (k := 0) (ix := 40) (mj_scod l (u0 := s) (H0 := s.heap) hs) hx hb (hml.trans hl.1.symm) hown hts (hts _ j_w1258) j_w992 j_w20 j_w994 j_w993 (by decide) (by decide +kernel) rfl h5 h6 h7 (by decide) (by decide) ⟨Nat.le_refl _, Nat.le_refl _⟩ (Nat.le_of_ble_eq_true rfl) dj_inf_11 ?_
  rintro v H1 L ⟨rfl, rfl⟩ hL
  refine lv_icmp_eq (tgt := 21) hx hb dj_inf_14 (by decide) (fun _ => ?_) (fun q => absurd rfl q)
  exact jret_v hx hb hr hlk ⟨rfl, rfl⟩ hL (Nat.le_refl _) (Nat.le_refl _) dj_inf_21
theorem j_fitb : ∀ k, k < 128 → fits .byte (.int (nI k)) = true := by decide +kernel
theorem mj_gby {t : Nat → Nat} (hB : jB D cA b d n f u0 H0) (hs : jStr a z w (fun j => nI (t j)) (jA b d) u0 H0) (hw : n + w ≤ 16) (ht : ∀ j, j < w → t j < 128) : jM l jy_gby jc_gby 4 jr_gby 1 24 0 0 u0 H0 [.ref a, .ref d, .int (nI n), .int 0] (jA b d) (fun v H1 => v = none ∧ va_P D jcl (jw b d cA (va_cpy (fun j => nI (t j)) f 0 n w) n) H1 ∧ va_S (jA b d) H0 H1 []) := by
  refine jM.of (by decide +kernel) (Nat.le_of_ble_eq_true rfl) ?_
  rintro p e s m below meth c ls ⟨hx, hb, hr, hml, hts, hown, hlk, hal, rfl⟩ hl
  have hl : lv_has ls 4 [(0, .ref a), (1, .ref d), (2, .int (nI n)), (3, .int 0)] := hl
  obtain ⟨hK, hP, hbd, hZ⟩ := hB.moved hal
  have hs := hs.moved hal
  obtain ⟨-, h2, -, h4, cell, h5, h6, h7, -⟩ := id hs
  refine lv_aload_n hx hb dj_gby_0 rfl (lv_at hl 0 rfl) ?_
  refine jV (C := "java/lang/String") (al := []) (rest := []) (k := 0) (ix := 335) (mj_scod l (u0 := s) (H0 := s.heap) hs) hx hb (hml.trans hl.1.symm) hown hts (hts _ j_w991) j_w992 j_w20 j_w994 j_w993 (by decide) (by decide +kernel) rfl h5 h6 h7 (by decide) (by decide) ⟨Nat.le_refl _, Nat.le_refl _⟩ (by decide) dj_gby_1 ?_
  rintro v H1 L ⟨rfl, rfl⟩ hL
  have hS : va_S (jA b d) s.heap s.heap L := ⟨Nat.le_refl _, fun _ _ _ => rfl, fun q hq => (hL q hq).elim⟩
  refine lv_iload_n hx hb dj_gby_4 rfl (lv_at hl 3 rfl) ?_
  refine lv_icmp_ne (tgt := 28) hx hb dj_gby_5 (by decide) (fun q => absurd rfl q) (fun _ => ?_)
  refine lv_aload_n hx hb dj_gby_8 rfl (lv_at hl 0 rfl) ?_
  refine vk_getf hx hb h2 hS hown (hts _ j_w1367) (fun _ h => h) dj_gby_9 ?_
  refine lv_iconst (v := 0) hx hb dj_gby_12 (by decide) ?_
  refine lv_aload_n hx hb dj_gby_13 rfl (lv_at hl 1 rfl) ?_
  refine lv_iload_n hx hb dj_gby_14 rfl (lv_at hl 2 rfl) ?_
  refine lv_iload_n hx hb dj_gby_15 rfl (lv_at hl 3 rfl) ?_
  refine lv_ishl hx hb dj_gby_16 ?_
  rw [sb_shl0]
  refine lv_aload_n hx hb dj_gby_17 rfl (lv_at hl 0 rfl) ?_
  refine vk_getf hx hb h2 hS hown (hts _ j_w1367) (fun _ h => h) dj_gby_18 ?_
  refine va_tlen hx hb h4 hS (v := nI w) rfl dj_gby_21 ?_
  have e1 : (nI n).toNatClampNeg = n := nI_clamp (by omega)
  have e2 : (nI w).toNatClampNeg = w := nI_clamp (by omega)
  refine vk_copyt hx hb (hml.trans hl.1.symm) hown (hts _ j_w1282) (hts _ j_w353) (hts _ j_w352) (hts _ j_w14) hK hP (j_D hbd) hS h4 1 0 rfl rfl (by decide) (nI_pos (by omega)) (nI_pos (by omega)) (by rw [e2]; show 0 + w ≤ w; omega) (by rw [e1, e2]; omega) (fun i hi => ?_) (by decide) (by decide) dj_gby_22 (fun H2 locs2 hP hD hS => ?_)
  · rw [e2] at hi
    have : fits .byte (.int (nI (t (0 + i)))) = true := j_fitb _ (ht _ (by omega))
    exact this
  rw [e1, e2] at hP
  refine lv_goto (tgt := 43) hx hb dj_gby_25 (by decide) ?_
  exact jret_v hx hb hr hlk ⟨rfl, hP, hS.bare⟩ hS.2.2 (Nat.le_refl _) (Nat.le_refl _) dj_gby_43
theorem mj_put {t : Nat → Nat} (hB : jB D cA b d n f u0 H0) (hs : jStr a z w (fun j => nI (t j)) (jA b d) u0 H0) (hw : n + w ≤ 16) (ht : ∀ j, j < w → t j < 128) : jM l jy_put jc_put 3 jr_put 2 47 0 0 u0 H0 [.ref b, .int (nI n), .ref a] (jA b d) (fun v H1 => v = none ∧ va_P D jcl (jw b d cA (va_cpy (fun j => nI (t j)) f 0 n w) n) H1 ∧ va_S (jA b d) H0 H1 []) := by
  refine jM.of (by decide +kernel) (Nat.le_of_ble_eq_true rfl) ?_
  rintro p e s m below meth c ls ⟨hx, hb, hr, hml, hts, hown, hlk, hal, rfl⟩ hl
  have hl : lv_has ls 3 [(0, .ref b), (1, .int (nI n)), (2, .ref a)] := hl
  have hB := hB.moved hal
  obtain ⟨hK, hP, hbd, hZ⟩ := id hB
  have hs := hs.moved hal
  obtain ⟨-, h2, -, h4, cell, h5, h6, h7, -⟩ := id hs
  obtain ⟨cb, g5, g6, g7, -⟩ := hB.cell
  refine lv_aload_n hx hb dj_put_0 rfl (lv_at hl 0 rfl) ?_
  refine lv_aload_n hx hb dj_put_1 rfl (lv_at hl 2 rfl) ?_
  refine jU (C := "java/lang/StringBuilder") (al := [.ref a]) (rest := []) (k := 1) (ix := 397) (mj_inf l (u0 := s) (H0 := s.heap) hB hs) hx hb (hml.trans hl.1.symm) hown hts (hts _ j_w1254) j_w1256 j_w28 j_w1257 (hts _ (List.mem_append_right _ j_X_inf)) j_w1396 (by decide) (by decide +kernel) rfl g5 g6 g7 (by decide) (by decide) ⟨Nat.le_refl _, Nat.le_refl _⟩ (by decide) dj_put_2 ?_
  rintro v H1 L ⟨rfl, rfl⟩ hL
  refine lv_aload_n hx hb dj_put_5 rfl (lv_at hl 2 rfl) ?_
  refine lv_aload_n hx hb dj_put_6 rfl (lv_at hl 0 rfl) ?_
  refine va_get (C := RJ4) (T := TJ4) (N := 4) (ci := 0) (v := .ref d) hx hb hts j_bw hown hK hP 0 rfl rfl 0 (by decide) (hts _ j_w1171) (fun _ h => h) rfl dj_put_7 ?_
  refine lv_iload_n hx hb dj_put_10 rfl (lv_at hl 1 rfl) ?_
  refine lv_aload_n hx hb dj_put_11 rfl (lv_at hl 0 rfl) ?_
  refine va_get (C := RJ4) (T := TJ4) (N := 4) (ci := 0) (v := .int 0) hx hb hts j_bw hown hK hP 0 rfl rfl 1 (by decide) (hts _ j_w1172) (fun _ h => h) rfl dj_put_12 ?_
  refine jV (C := "java/lang/String") (al := [.ref d, .int (nI n), .int 0]) (rest := []) (k := 3) (ix := 399) (mj_gby l (u0 := s) (H0 := s.heap) hB hs hw ht) hx hb (hml.trans hl.1.symm) hown hts (hts _ j_w1278) j_w1279 j_w20 j_w1281 j_w1280 (by decide) (by decide +kernel) rfl h5 h6 h7 (by decide) (by decide) ⟨Nat.le_refl _, Nat.le_refl _⟩ (by decide) dj_put_15 ?_
  rintro v H1 L2 ⟨rfl, h8, h9⟩ hL2
  exact jret_v hx hb hr hlk ⟨rfl, h8, h9⟩ (fun q hq => (List.mem_append.mp hq).elim (fun h => (hL q h).elim) (hL2 q)) (Nat.le_refl _) (Nat.le_refl _) dj_put_18
theorem mj_aas {t : Nat → Nat} (hB : jB D cA b d n f u0 H0) (hs : jStr a z w (fun j => nI (t j)) (jA b d) u0 H0) (hw : n + w ≤ 16) (ht : ∀ j, j < w → t j < 128) : jM l jy_aas jc_aas 3 jr_aas 3 70 0 0 u0 H0 [.ref b, .ref a] (jA b d) (fun v H1 => v = some (.ref b) ∧ va_P D jcl (jw b d cA (va_cpy (fun j => nI (t j)) f 0 n w) (n + w)) H1 ∧ va_S (jA b d) H0 H1 []) := by
  refine jM.of (by decide +kernel) (Nat.le_of_ble_eq_true rfl) ?_
  rintro p e s m below meth c ls ⟨hx, hb, hr, hml, hts, hown, hlk, hal, rfl⟩ hl
  have hl : lv_has ls 3 [(0, .ref b), (1, .ref a)] := hl
  have hB := hB.moved hal
  obtain ⟨hK, hP, hbd, hZ⟩ := id hB
  have hs := hs.moved hal
  obtain ⟨-, h2, -, h4, cell, h5, h6, h7, -⟩ := id hs
  obtain ⟨cb, g5, g6, g7, -⟩ := hB.cell
  refine lv_aload_n hx hb dj_aas_0 rfl (lv_at hl 1 rfl) ?_
  refine lv_ifnonnull (tgt := 9) hx hb dj_aas_1 (by decide) ?_
  refine lv_aload_n hx hb dj_aas_9 rfl (lv_at hl 1 rfl) ?_
  refine jV (C := "java/lang/String") (al := []) (rest := []) (k := 0) (ix := 32) (mj_slen l (u0 := s) (H0 := s.heap) hs) hx hb (hml.trans hl.1.symm) hown hts (hts _ j_w1249) j_w988 j_w20 j_w990 j_w989 (by decide) (by decide +kernel) rfl h5 h6 h7 (by decide) (by decide) ⟨Nat.le_refl _, Nat.le_refl _⟩ (by decide) dj_aas_10 ?_
  rintro v H1 L ⟨rfl, rfl⟩ hL
  refine lv_istore_n (lv' := [(2, .int (nI w)), (0, .ref b), (1, .ref a)]) hx hb dj_aas_13 rfl hl (by decide) rfl (fun ls hl => ?_)
  refine lv_aload_n hx hb dj_aas_14 rfl (lv_at hl 1 rfl) ?_
  refine lv_aload_n hx hb dj_aas_15 rfl (lv_at hl 1 rfl) ?_
  refine va_get (C := RJ4) (T := TJ4) (N := 4) (ci := 0) (v := .int (nI n)) hx hb hts j_bw hown hK hP 0 rfl rfl 3 (by decide) (hts _ j_w1174) (fun _ h => h) rfl dj_aas_16 ?_
  refine lv_iload_n hx hb dj_aas_19 rfl (lv_at hl 0 rfl) ?_
  refine lv_iadd hx hb dj_aas_20 ?_
  rw [nI_add]
  refine jU (C := "java/lang/StringBuilder") (al := [.int (nI (n + w))]) (rest := []) (k := 1) (ix := 100) (mj_ens l (u0 := s) (H0 := s.heap) hB hw) hx hb (hml.trans hl.1.symm) hown hts (hts _ j_w1196) j_w1198 j_w28 j_w1199 (hts _ (List.mem_append_right _ j_X_ens)) j_w1393 (by decide) (by decide +kernel) rfl g5 g6 g7 (by decide) (by decide) ⟨Nat.le_refl _, Nat.le_refl _⟩ (by decide) dj_aas_21 ?_
  rintro v H1 L2 ⟨rfl, rfl⟩ hL2
  refine lv_aload_n hx hb dj_aas_24 rfl (lv_at hl 1 rfl) ?_
  refine lv_aload_n hx hb dj_aas_25 rfl (lv_at hl 1 rfl) ?_
  refine va_get (C := RJ4) (T := TJ4) (N := 4) (ci := 0) (v := .int (nI n)) hx hb hts j_bw hown hK hP 0 rfl rfl 3 (by decide) (hts _ j_w1174) (fun _ h => h) rfl dj_aas_26 ?_
  refine lv_aload_n hx hb dj_aas_29 rfl (lv_at hl 2 rfl) ?_
  refine jU (C := "java/lang/StringBuilder") (al := [.int (nI n), .ref a]) (rest := []) (k := 2) (ix := 208) (mj_put l (u0 := s) (H0 := s.heap) hB hs hw ht) hx hb (hml.trans hl.1.symm) hown hts (hts _ j_w1250) j_w1252 j_w28 j_w1253 (hts _ (List.mem_append_right _ j_X_put)) j_w1395 (by decide) (by decide +kernel) rfl g5 g6 g7 (by decide) (by decide) ⟨Nat.le_refl _, Nat.le_refl _⟩ (by decide) dj_aas_30 ?_
  rintro v H1 L3 ⟨rfl, hP, h9⟩ hL3
  have hS := h9.locs (l1 := [] ++ L ++ L2) (L := L3) (fun q hq => (List.mem_append.mp hq).elim (fun h => (hL q h).elim) (fun h => (hL2 q h).elim)) hL3
  have hD := j_D (n := n) (cA := cA) (f := va_cpy (fun j => nI (t j)) f 0 n w) hbd
  refine lv_aload_n hx hb dj_aas_33 rfl (lv_at hl 1 rfl) ?_
  refine lv_dup hx hb dj_aas_34 rfl ?_
  refine va_get (C := RJ4) (T := TJ4) (N := 4) (ci := 0) (v := .int (nI n)) hx hb hts j_bw hown hK hP 0 rfl rfl 3 (by decide) (hts _ j_w1174) (fun _ h => h) rfl dj_aas_35 ?_
  refine lv_iload_n hx hb dj_aas_38 rfl (lv_at hl 0 rfl) ?_
  refine lv_iadd hx hb dj_aas_39 ?_
  rw [nI_add]
  refine va_put (C := RJ4) (T := TJ4) (N := 4) (ci := 0) hx hb hts j_bw tyJ4 tyJ4_ok nmJ4 hown hK hP hD hS 0 rfl rfl 3 (by decide) (hts _ j_w1174) (fun _ h => h) rfl (ty := .int) (v := .int (nI (n + w))) (by decide +kernel) rfl rfl (show (3 : Nat) < 4 by decide) dj_aas_40 (fun H2 locs2 hP hD hS => ?_)
  refine lv_aload_n hx hb dj_aas_43 rfl (lv_at hl 1 rfl) ?_
  exact jret_a hx hb hr (Or.inl ⟨_, rfl⟩) hlk ⟨rfl, hP, hS.bare⟩ hS.2.2 (Nat.le_refl _) (Nat.le_refl _) dj_aas_44
theorem mj_bas {t : Nat → Nat} (hB : jB D cA b d n f u0 H0) (hs : jStr a z w (fun j => nI (t j)) (jA b d) u0 H0) (hw : n + w ≤ 16) (ht : ∀ j, j < w → t j < 128) : jM l jy_bas jc_bas 2 jr_bas 4 92 0 0 u0 H0 [.ref b, .ref a] (jA b d) (fun v H1 => v = some (.ref b) ∧ va_P D jcl (jw b d cA (va_cpy (fun j => nI (t j)) f 0 n w) (n + w)) H1 ∧ va_S (jA b d) H0 H1 []) := by
  refine jM.of (by decide +kernel) (Nat.le_of_ble_eq_true rfl) ?_
  rintro p e s m below meth c ls ⟨hx, hb, hr, hml, hts, hown, hlk, hal, rfl⟩ hl
  have hl : lv_has ls 2 [(0, .ref b), (1, .ref a)] := hl
  have hB := hB.moved hal
  have hs := hs.moved hal
  obtain ⟨cb, g5, g6, -, kC, g8⟩ := hB.cell
  refine lv_aload_n hx hb dj_bas_0 rfl (lv_at hl 0 rfl) ?_
  refine lv_aload_n hx hb dj_bas_1 rfl (lv_at hl 1 rfl) ?_
  refine jSU (al := [.ref a]) (rest := []) (k := 1) (ix := 29) (mj_aas l (u0 := s) (H0 := s.heap) hB hs hw ht) hx hb (hml.trans hl.1.symm) hown hts (hts _ j_w1189) j_w1190 j_w28 j_w1191 j_w1183 j_w1391 (by decide) (by decide +kernel) rfl g5 g6 g8 (by decide) (by decide) ⟨Nat.le_refl _, Nat.le_refl _⟩ (by decide) dj_bas_2 ?_
  rintro v H1 L ⟨rfl, h8, h9⟩ hL
  refine lv_pop hx hb dj_bas_5 rfl ?_
  refine lv_aload_n hx hb dj_bas_6 rfl (lv_at hl 0 rfl) ?_
  exact jret_a hx hb hr (Or.inl ⟨_, rfl⟩) hlk ⟨rfl, h8, h9⟩ hL (Nat.le_refl _) (Nat.le_refl _) dj_bas_7
end JA1
end
section
/-! THE JDK's OWN METHODS: an int of one digit or of two behind a StringBuilder's letters -/
abbrev jy_siz : MethodName := ⟨"java/lang/Integer", "stringSize", "(I)I"⟩
abbrev jc_siz : ByteArray := prog_26_method_13_code
abbrev jr_siz : Option FieldType := (Option.some Jvm.ClassFile.FieldType.int)
abbrev jy_gch : MethodName := ⟨"java/lang/Integer", "getChars", "(II[B)I"⟩
abbrev jc_gch : ByteArray := prog_26_method_12_code
abbrev jr_gch : Option FieldType := (Option.some Jvm.ClassFile.FieldType.int)
abbrev jy_aai : MethodName := ⟨"java/lang/AbstractStringBuilder", "append", "(I)Ljava/lang/AbstractStringBuilder;"⟩
abbrev jc_aai : ByteArray := prog_13_method_32_code
abbrev jr_aai : Option FieldType := (Option.some (Jvm.ClassFile.FieldType.object "java/lang/AbstractStringBuilder"))
abbrev jy_bai : MethodName := ⟨"java/lang/StringBuilder", "append", "(I)Ljava/lang/StringBuilder;"⟩
abbrev jc_bai : ByteArray := prog_31_method_15_code
abbrev jr_bai : Option FieldType := (Option.some (Jvm.ClassFile.FieldType.object "java/lang/StringBuilder"))
theorem j_w1297 : Jvm.Cond.fieldLink "java/lang/Integer" (83 : Nat) "java/lang/Integer" "DigitOnes" "[B" ∈ j_W := j_at_in (i := 1306) (by decide +kernel)
theorem j_w1299 : Jvm.Cond.fieldLink "java/lang/Integer" (87 : Nat) "java/lang/Integer" "DigitTens" "[B" ∈ j_W := j_at_in (i := 1308) (by decide +kernel)
theorem j_w1291 : Jvm.Cond.methodLink "java/lang/AbstractStringBuilder" (245 : Nat) ({ cls := "java/lang/Integer", name := "stringSize", desc := "(I)I" } : Jvm.MethodName) ∈ j_W := j_at_in (i := 1300) (by decide +kernel)
theorem j_w1292 : Jvm.Cond.static ({ cls := "java/lang/Integer", name := "stringSize", desc := "(I)I" } : Jvm.MethodName) ∈ j_W := j_at_in (i := 1301) (by decide +kernel)
theorem j_w33 : Jvm.Cond.initialized "java/lang/Integer" ∈ j_W := j_at_in (i := 42) (by decide +kernel)
theorem j_w1293 : Jvm.Cond.code ({ cls := "java/lang/Integer", name := "stringSize", desc := "(I)I" } : Jvm.MethodName) prog_26_method_13_code (4 : Nat) (Option.some Jvm.ClassFile.FieldType.int) ∈ j_W := j_at_in (i := 1302) (by decide +kernel)
theorem j_w1229 : Jvm.Cond.methodLink "java/lang/AbstractStringBuilder" (83 : Nat) ({ cls := "java/lang/AbstractStringBuilder", name := "isLatin1", desc := "()Z" } : Jvm.MethodName) ∈ j_W := j_at_in (i := 1238) (by decide +kernel)
theorem j_w1230 : Jvm.Cond.instanceMethod ({ cls := "java/lang/AbstractStringBuilder", name := "isLatin1", desc := "()Z" } : Jvm.MethodName) ∈ j_W := j_at_in (i := 1239) (by decide +kernel)
theorem j_w1233 : Jvm.Cond.code ({ cls := "java/lang/AbstractStringBuilder", name := "isLatin1", desc := "()Z" } : Jvm.MethodName) prog_13_method_68_code (1 : Nat) (Option.some Jvm.ClassFile.FieldType.boolean) ∈ j_W := j_at_in (i := 1242) (by decide +kernel)
theorem j_w1232 : Jvm.Cond.selects "java/lang/StringBuilder" ({ cls := "java/lang/AbstractStringBuilder", name := "isLatin1", desc := "()Z" } : Jvm.MethodName) ({ cls := "java/lang/AbstractStringBuilder", name := "isLatin1", desc := "()Z" } : Jvm.MethodName) ∈ j_W := j_at_in (i := 1241) (by decide +kernel)
theorem j_w1231 : Jvm.Cond.sameMethod "java/lang/AbstractStringBuilder" "java/lang/AbstractStringBuilder" "isLatin1" "()Z" ∈ j_W := j_at_in (i := 1240) (by decide +kernel)
theorem j_w1294 : Jvm.Cond.methodLink "java/lang/AbstractStringBuilder" (248 : Nat) ({ cls := "java/lang/Integer", name := "getChars", desc := "(II[B)I" } : Jvm.MethodName) ∈ j_W := j_at_in (i := 1303) (by decide +kernel)
theorem j_w1295 : Jvm.Cond.static ({ cls := "java/lang/Integer", name := "getChars", desc := "(II[B)I" } : Jvm.MethodName) ∈ j_W := j_at_in (i := 1304) (by decide +kernel)
theorem j_w1296 : Jvm.Cond.code ({ cls := "java/lang/Integer", name := "getChars", desc := "(II[B)I" } : Jvm.MethodName) prog_26_method_12_code (7 : Nat) (Option.some Jvm.ClassFile.FieldType.int) ∈ j_W := j_at_in (i := 1305) (by decide +kernel)
theorem j_w1288 : Jvm.Cond.methodLink "java/lang/StringBuilder" (53 : Nat) ({ cls := "java/lang/AbstractStringBuilder", name := "append", desc := "(I)Ljava/lang/AbstractStringBuilder;" } : Jvm.MethodName) ∈ j_W := j_at_in (i := 1297) (by decide +kernel)
theorem j_w1289 : Jvm.Cond.instanceMethod ({ cls := "java/lang/AbstractStringBuilder", name := "append", desc := "(I)Ljava/lang/AbstractStringBuilder;" } : Jvm.MethodName) ∈ j_W := j_at_in (i := 1298) (by decide +kernel)
theorem j_w1290 : Jvm.Cond.code ({ cls := "java/lang/AbstractStringBuilder", name := "append", desc := "(I)Ljava/lang/AbstractStringBuilder;" } : Jvm.MethodName) prog_13_method_32_code (4 : Nat) (Option.some (Jvm.ClassFile.FieldType.object "java/lang/AbstractStringBuilder")) ∈ j_W := j_at_in (i := 1299) (by decide +kernel)
theorem j_w1398 : Jvm.Cond.sameMethod "java/lang/AbstractStringBuilder" "java/lang/AbstractStringBuilder" "append" "(I)Ljava/lang/AbstractStringBuilder;" ∈ j_W := j_at_in (i := 1407) (by decide +kernel)
theorem dj_siz_0 : decode jc_siz 0 = .ok (.iconst 1, 1) := by decide +kernel
theorem dj_siz_1 : decode jc_siz 1 = .ok (.istore_n 1, 1) := by decide +kernel
theorem dj_siz_2 : decode jc_siz 2 = .ok (.iload_n 0, 1) := by decide +kernel
theorem dj_siz_3 : decode jc_siz 3 = .ok (.ifCond .lt 8, 3) := by decide +kernel
theorem dj_siz_6 : decode jc_siz 6 = .ok (.iconst 0, 1) := by decide +kernel
theorem dj_siz_7 : decode jc_siz 7 = .ok (.istore_n 1, 1) := by decide +kernel
theorem dj_siz_8 : decode jc_siz 8 = .ok (.iload_n 0, 1) := by decide +kernel
theorem dj_siz_9 : decode jc_siz 9 = .ok (.ineg, 1) := by decide +kernel
theorem dj_siz_10 : decode jc_siz 10 = .ok (.istore_n 0, 1) := by decide +kernel
theorem dj_siz_11 : decode jc_siz 11 = .ok (.bipush (-10), 2) := by decide +kernel
theorem dj_siz_13 : decode jc_siz 13 = .ok (.istore_n 2, 1) := by decide +kernel
theorem dj_siz_14 : decode jc_siz 14 = .ok (.iconst 1, 1) := by decide +kernel
theorem dj_siz_15 : decode jc_siz 15 = .ok (.istore_n 3, 1) := by decide +kernel
theorem dj_siz_16 : decode jc_siz 16 = .ok (.iload_n 3, 1) := by decide +kernel
theorem dj_siz_17 : decode jc_siz 17 = .ok (.bipush 10, 2) := by decide +kernel
theorem dj_siz_19 : decode jc_siz 19 = .ok (.if_icmp .ge 23, 3) := by decide +kernel
theorem dj_siz_22 : decode jc_siz 22 = .ok (.iload_n 0, 1) := by decide +kernel
theorem dj_siz_23 : decode jc_siz 23 = .ok (.iload_n 2, 1) := by decide +kernel
theorem dj_siz_24 : decode jc_siz 24 = .ok (.if_icmp .le 7, 3) := by decide +kernel
theorem dj_siz_31 : decode jc_siz 31 = .ok (.bipush 10, 2) := by decide +kernel
theorem dj_siz_33 : decode jc_siz 33 = .ok (.iload_n 2, 1) := by decide +kernel
theorem dj_siz_34 : decode jc_siz 34 = .ok (.imul, 1) := by decide +kernel
theorem dj_siz_35 : decode jc_siz 35 = .ok (.istore_n 2, 1) := by decide +kernel
theorem dj_siz_36 : decode jc_siz 36 = .ok (.iinc 3 1, 3) := by decide +kernel
theorem dj_siz_39 : decode jc_siz 39 = .ok (.goto (-23), 3) := by decide +kernel
theorem dj_siz_27 : decode jc_siz 27 = .ok (.iload_n 3, 1) := by decide +kernel
theorem dj_siz_28 : decode jc_siz 28 = .ok (.iload_n 1, 1) := by decide +kernel
theorem dj_siz_29 : decode jc_siz 29 = .ok (.iadd, 1) := by decide +kernel
theorem dj_siz_30 : decode jc_siz 30 = .ok (.ireturn, 1) := by decide +kernel
theorem dj_gch_0 : decode jc_gch 0 = .ok (.iload_n 1, 1) := by decide +kernel
theorem dj_gch_1 : decode jc_gch 1 = .ok (.istore 5, 2) := by decide +kernel
theorem dj_gch_3 : decode jc_gch 3 = .ok (.iload_n 0, 1) := by decide +kernel
theorem dj_gch_4 : decode jc_gch 4 = .ok (.ifCond .ge 7, 3) := by decide +kernel
theorem dj_gch_11 : decode jc_gch 11 = .ok (.iconst 0, 1) := by decide +kernel
theorem dj_gch_12 : decode jc_gch 12 = .ok (.istore 6, 2) := by decide +kernel
theorem dj_gch_14 : decode jc_gch 14 = .ok (.iload 6, 2) := by decide +kernel
theorem dj_gch_16 : decode jc_gch 16 = .ok (.ifCond .ne 6, 3) := by decide +kernel
theorem dj_gch_19 : decode jc_gch 19 = .ok (.iload_n 0, 1) := by decide +kernel
theorem dj_gch_20 : decode jc_gch 20 = .ok (.ineg, 1) := by decide +kernel
theorem dj_gch_21 : decode jc_gch 21 = .ok (.istore_n 0, 1) := by decide +kernel
theorem dj_gch_22 : decode jc_gch 22 = .ok (.iload_n 0, 1) := by decide +kernel
theorem dj_gch_23 : decode jc_gch 23 = .ok (.bipush (-100), 2) := by decide +kernel
theorem dj_gch_25 : decode jc_gch 25 = .ok (.if_icmp .gt 47, 3) := by decide +kernel
theorem dj_gch_72 : decode jc_gch 72 = .ok (.aload_n 2, 1) := by decide +kernel
theorem dj_gch_73 : decode jc_gch 73 = .ok (.iinc 5 (-1), 3) := by decide +kernel
theorem dj_gch_76 : decode jc_gch 76 = .ok (.iload 5, 2) := by decide +kernel
theorem dj_gch_78 : decode jc_gch 78 = .ok (.getstatic 83, 3) := by decide +kernel
theorem dj_gch_81 : decode jc_gch 81 = .ok (.iload_n 0, 1) := by decide +kernel
theorem dj_gch_82 : decode jc_gch 82 = .ok (.ineg, 1) := by decide +kernel
theorem dj_gch_83 : decode jc_gch 83 = .ok (.baload, 1) := by decide +kernel
theorem dj_gch_84 : decode jc_gch 84 = .ok (.bastore, 1) := by decide +kernel
theorem dj_gch_85 : decode jc_gch 85 = .ok (.iload_n 0, 1) := by decide +kernel
theorem dj_gch_86 : decode jc_gch 86 = .ok (.bipush (-9), 2) := by decide +kernel
theorem dj_gch_88 : decode jc_gch 88 = .ok (.if_icmp .ge 16, 3) := by decide +kernel
theorem dj_gch_104 : decode jc_gch 104 = .ok (.iload 6, 2) := by decide +kernel
theorem dj_gch_106 : decode jc_gch 106 = .ok (.ifCond .eq 12, 3) := by decide +kernel
theorem dj_gch_118 : decode jc_gch 118 = .ok (.iload 5, 2) := by decide +kernel
theorem dj_gch_120 : decode jc_gch 120 = .ok (.ireturn, 1) := by decide +kernel
theorem dj_gch_91 : decode jc_gch 91 = .ok (.aload_n 2, 1) := by decide +kernel
theorem dj_gch_92 : decode jc_gch 92 = .ok (.iinc 5 (-1), 3) := by decide +kernel
theorem dj_gch_95 : decode jc_gch 95 = .ok (.iload 5, 2) := by decide +kernel
theorem dj_gch_97 : decode jc_gch 97 = .ok (.getstatic 87, 3) := by decide +kernel
theorem dj_gch_100 : decode jc_gch 100 = .ok (.iload_n 0, 1) := by decide +kernel
theorem dj_gch_101 : decode jc_gch 101 = .ok (.ineg, 1) := by decide +kernel
theorem dj_gch_102 : decode jc_gch 102 = .ok (.baload, 1) := by decide +kernel
theorem dj_gch_103 : decode jc_gch 103 = .ok (.bastore, 1) := by decide +kernel
theorem dj_aai_0 : decode jc_aai 0 = .ok (.aload_n 0, 1) := by decide +kernel
theorem dj_aai_1 : decode jc_aai 1 = .ok (.getfield 79, 3) := by decide +kernel
theorem dj_aai_4 : decode jc_aai 4 = .ok (.istore_n 2, 1) := by decide +kernel
theorem dj_aai_5 : decode jc_aai 5 = .ok (.iload_n 2, 1) := by decide +kernel
theorem dj_aai_6 : decode jc_aai 6 = .ok (.iload_n 1, 1) := by decide +kernel
theorem dj_aai_7 : decode jc_aai 7 = .ok (.invokestatic 245, 3) := by decide +kernel
theorem dj_aai_10 : decode jc_aai 10 = .ok (.iadd, 1) := by decide +kernel
theorem dj_aai_11 : decode jc_aai 11 = .ok (.istore_n 3, 1) := by decide +kernel
theorem dj_aai_12 : decode jc_aai 12 = .ok (.aload_n 0, 1) := by decide +kernel
theorem dj_aai_13 : decode jc_aai 13 = .ok (.iload_n 3, 1) := by decide +kernel
theorem dj_aai_14 : decode jc_aai 14 = .ok (.invokevirtual 100, 3) := by decide +kernel
theorem dj_aai_17 : decode jc_aai 17 = .ok (.aload_n 0, 1) := by decide +kernel
theorem dj_aai_18 : decode jc_aai 18 = .ok (.invokevirtual 83, 3) := by decide +kernel
theorem dj_aai_21 : decode jc_aai 21 = .ok (.ifCond .eq 16, 3) := by decide +kernel
theorem dj_aai_24 : decode jc_aai 24 = .ok (.iload_n 1, 1) := by decide +kernel
theorem dj_aai_25 : decode jc_aai 25 = .ok (.iload_n 3, 1) := by decide +kernel
theorem dj_aai_26 : decode jc_aai 26 = .ok (.aload_n 0, 1) := by decide +kernel
theorem dj_aai_27 : decode jc_aai 27 = .ok (.getfield 15, 3) := by decide +kernel
theorem dj_aai_30 : decode jc_aai 30 = .ok (.invokestatic 248, 3) := by decide +kernel
theorem dj_aai_33 : decode jc_aai 33 = .ok (.pop, 1) := by decide +kernel
theorem dj_aai_34 : decode jc_aai 34 = .ok (.goto 14, 3) := by decide +kernel
theorem dj_aai_48 : decode jc_aai 48 = .ok (.aload_n 0, 1) := by decide +kernel
theorem dj_aai_49 : decode jc_aai 49 = .ok (.iload_n 3, 1) := by decide +kernel
theorem dj_aai_50 : decode jc_aai 50 = .ok (.putfield 79, 3) := by decide +kernel
theorem dj_aai_53 : decode jc_aai 53 = .ok (.aload_n 0, 1) := by decide +kernel
theorem dj_aai_54 : decode jc_aai 54 = .ok (.areturn, 1) := by decide +kernel
theorem dj_bai_0 : decode jc_bai 0 = .ok (.aload_n 0, 1) := by decide +kernel
theorem dj_bai_1 : decode jc_bai 1 = .ok (.iload_n 1, 1) := by decide +kernel
theorem dj_bai_2 : decode jc_bai 2 = .ok (.invokespecial 53, 3) := by decide +kernel
theorem dj_bai_5 : decode jc_bai 5 = .ok (.pop, 1) := by decide +kernel
theorem dj_bai_6 : decode jc_bai 6 = .ok (.aload_n 0, 1) := by decide +kernel
theorem dj_bai_7 : decode jc_bai 7 = .ok (.areturn, 1) := by decide +kernel
theorem j_nn : ∀ v, v < 100 → (v < 10 → ¬ (-(nI v) ≤ -10) ∧ -9 ≤ -(nI v)) ∧ (10 ≤ v → -(nI v) ≤ -10 ∧ ¬ (-(nI v) ≤ -100) ∧ ¬ (-9 ≤ -(nI v))) ∧ -100 < -(nI v) := by decide +kernel
theorem j_dec (n : Nat) : nI (n + 1) + Int32.ofInt (-1) = nI n := by
  rw [show Int32.ofInt (-1) = -1 by decide]
  exact sb_m1 (Nat.succ_pos n)
theorem j_narb : ∀ k, k < 128 → vp_nar .byte (nI k) = nI k := by decide +kernel
abbrev jdg (v : Nat) : Nat := if v < 10 then 1 else 2
abbrev jdf (f : Nat → Int32) (n v : Nat) : Nat → Int32 := if v < 10 then upd f n (nI (48 + v)) else upd (upd f (n + 1) (nI (48 + v % 10))) n (nI (48 + v / 10))
/-- Integer's two tables -/
abbrev jTb (q1 q2 : Nat) (A : Nat → Prop) (U : State) (H : Heap) : Prop := (va_Z "java/lang/Integer" "DigitOnes" "[B" (.ref q1) A U H ∧ va_T .byte q1 100 (fun j => .int (nI (48 + j % 10))) A U H) ∧ va_Z "java/lang/Integer" "DigitTens" "[B" (.ref q2) A U H ∧ va_T .byte q2 100 (fun j => .int (nI (48 + j / 10))) A U H
theorem jTb.moved {q1 q2 : Nat} {A : Nat → Prop} {u U : State} {H : Heap} (hvm : u.vm.Alike U.vm) (h : jTb q1 q2 A u H) : jTb q1 q2 A U H := ⟨⟨va_Z.moved hvm h.1.1, va_T.moved hvm h.1.2⟩, va_Z.moved hvm h.2.1, va_T.moved hvm h.2.2⟩
theorem jTb.kept {q1 q2 : Nat} {A : Nat → Prop} {U : State} {H H1 : Heap} (h : jTb q1 q2 A U H) (hq : ∀ q : Nat, q < H.size → ¬ A q → H1[q]? = H[q]?) : jTb q1 q2 A U H1 := ⟨⟨h.1.1.kept hq, h.1.2.kept hq⟩, h.2.1.kept hq, h.2.2.kept hq⟩
section JT0
variable {p : Program} {l : Launch} {e : Env} {R : Room} {s : State} {m : MethodId} {args : Array Value} {below : List Frame} {meth : Method} {c : Code} {H : Heap} {locs : List Loc} {cells slots : Nat} {Q : State → Prop} {pc : Nat} {ls : Array Slot} {cc : ByteArray} {A : Nat → Prop} {rest : List Value}
theorem j_tld {q N i : Nat} {f : Nat → Int32} (hx : p.tables.exec = Jvm.exec) (hb : c.code = cc) (hT : va_T .byte q N (fun j => .int (f j)) A s s.heap) (hS : va_S A s.heap H locs) (hi : i < N) (hN : N < 2147483648) (hdg : decode cc pc = .ok (.baload, 1))
    (kk : W p l e R s m args below meth c H locs cells slots Q (F0 m (pc + 1) ls (.int (f i) :: rest))) : W p l e R s m args below meth c H locs cells slots Q (F0 m pc ls (.int (nI i) :: .ref q :: rest)) := by
  obtain ⟨cell, g1, g2, g3, g4, g5, g6, -⟩ := hT.kept hS.2.1
  have e1 : (nI i).toNatClampNeg = i := nI_clamp (by omega)
  refine W.bald (v := .int (f i)) hx hb g1 g2 g3 (fun h => ?_) (by rw [e1]; exact g6 i hi) rfl rfl hdg kk
  rcases h with h | h
  · exact nI_pos (by omega) h
  · rw [e1] at h; omega
end JT0
section JI1
variable (l : Launch) {u0 : State} {H0 : Heap} {D : va_G} {cA : ClassId} {b d n q1 q2 v : Nat} {f : Nat → Int32}
theorem mj_siz (hv : v < 100) : jM l jy_siz jc_siz 4 jr_siz 0 0 0 0 u0 H0 [.int (nI v)] jNo (fun r H => r = some (.int (nI (jdg v))) ∧ H = H0) := by
  refine jM.of (by decide +kernel) (Nat.le_of_ble_eq_true rfl) ?_
  rintro p e s m below meth c ls ⟨hx, hb, hr, hml, hts, hown, hlk, hal, rfl⟩ hl
  have hl : lv_has ls 4 [(0, .int (nI v))] := hl
  obtain ⟨n1, n2, n3⟩ := j_nn v hv
  refine lv_iconst (v := 1) hx hb dj_siz_0 (by decide) ?_
  refine lv_istore_n (lv' := [(1, .int 1), (0, .int (nI v))]) hx hb dj_siz_1 rfl hl (by decide) rfl (fun ls hl => ?_)
  refine lv_iload_n hx hb dj_siz_2 rfl (lv_at hl 1 rfl) ?_
  refine lv_if_lt (tgt := 11) hx hb dj_siz_3 (by decide) (fun q => absurd q (nI_pos (by omega))) (fun _ => ?_)
  refine lv_iconst (v := 0) hx hb dj_siz_6 (by decide) ?_
  refine lv_istore_n (lv' := [(1, .int 0), (0, .int (nI v))]) hx hb dj_siz_7 rfl hl (by decide) rfl (fun ls hl => ?_)
  refine lv_iload_n hx hb dj_siz_8 rfl (lv_at hl 1 rfl) ?_
  refine lv_ineg hx hb dj_siz_9 ?_
  refine lv_istore_n (lv' := [(0, .int (-(nI v))), (1, .int 0)]) hx hb dj_siz_10 rfl hl (by decide) rfl (fun ls hl => ?_)
  refine lv_bipush (v := -10) hx hb dj_siz_11 (by decide) ?_
  refine lv_istore_n (lv' := [(2, .int (-10)), (0, .int (-(nI v))), (1, .int 0)]) hx hb dj_siz_13 rfl hl (by decide) rfl (fun ls hl => ?_)
  refine lv_iconst (v := 1) hx hb dj_siz_14 (by decide) ?_
  refine lv_istore_n (lv' := [(3, .int 1), (2, .int (-10)), (0, .int (-(nI v))), (1, .int 0)]) hx hb dj_siz_15 rfl hl (by decide) rfl (fun ls hl => ?_)
  refine lv_iload_n hx hb dj_siz_16 rfl (lv_at hl 0 rfl) ?_
  refine lv_bipush (v := 10) hx hb dj_siz_17 (by decide) ?_
  refine lv_icmp_ge (tgt := 42) hx hb dj_siz_19 (by decide) (fun q => absurd q (by decide)) (fun _ => ?_)
  refine lv_iload_n hx hb dj_siz_22 rfl (lv_at hl 2 rfl) ?_
  refine lv_iload_n hx hb dj_siz_23 rfl (lv_at hl 1 rfl) ?_
  refine lv_icmp_le (tgt := 31) hx hb dj_siz_24 (by decide) (fun q => ?_) (fun q => ?_)
  · have h10 : ¬ v < 10 := fun h => (n1 h).1 q
    refine lv_bipush (v := 10) hx hb dj_siz_31 (by decide) ?_
    refine lv_iload_n hx hb dj_siz_33 rfl (lv_at hl 1 rfl) ?_
    refine lv_imul hx hb dj_siz_34 ?_
    rw [show (10 : Int32) * (-10) = -100 by decide]
    refine lv_istore_n (lv' := [(2, .int (-100)), (3, .int 1), (0, .int (-(nI v))), (1, .int 0)]) hx hb dj_siz_35 rfl hl (by decide) rfl (fun ls hl => ?_)
    refine lv_iinc (lv' := [(3, .int 2), (2, .int (-100)), (0, .int (-(nI v))), (1, .int 0)]) (v := 2) hx hb dj_siz_36 hl (k := 1) rfl (by decide) (by decide) rfl (fun ls hl => ?_)
    refine lv_goto (tgt := 16) hx hb dj_siz_39 (by decide) ?_
    refine lv_iload_n hx hb dj_siz_16 rfl (lv_at hl 0 rfl) ?_
    refine lv_bipush (v := 10) hx hb dj_siz_17 (by decide) ?_
    refine lv_icmp_ge (tgt := 42) hx hb dj_siz_19 (by decide) (fun q => absurd q (by decide)) (fun _ => ?_)
    refine lv_iload_n hx hb dj_siz_22 rfl (lv_at hl 2 rfl) ?_
    refine lv_iload_n hx hb dj_siz_23 rfl (lv_at hl 1 rfl) ?_
    refine lv_icmp_le (tgt := 31) hx hb dj_siz_24 (by decide) (fun q => absurd q (n2 (by omega)).2.1) (fun _ => ?_)
    refine lv_iload_n hx hb dj_siz_27 rfl (lv_at hl 0 rfl) ?_
    refine lv_iload_n hx hb dj_siz_28 rfl (lv_at hl 3 rfl) ?_
    refine lv_iadd hx hb dj_siz_29 ?_
    rw [show (2 : Int32) + 0 = nI 2 by decide]
    exact jret_i hx hb hr rfl hlk ⟨by rw [show jdg v = 2 from if_neg h10], rfl⟩ j_nil (Nat.le_refl _) (Nat.le_refl _) dj_siz_30
  · have h10 : v < 10 := Nat.lt_of_not_le fun h => q (n2 h).1
    refine lv_iload_n hx hb dj_siz_27 rfl (lv_at hl 0 rfl) ?_
    refine lv_iload_n hx hb dj_siz_28 rfl (lv_at hl 3 rfl) ?_
    refine lv_iadd hx hb dj_siz_29 ?_
    rw [show (1 : Int32) + 0 = nI 1 by decide]
    exact jret_i hx hb hr rfl hlk ⟨by rw [show jdg v = 1 from if_pos h10], rfl⟩ j_nil (Nat.le_refl _) (Nat.le_refl _) dj_siz_30
theorem mj_gch (hB : jB D cA b d n f u0 H0) (hT : jTb q1 q2 (jA b d) u0 H0) (hv : v < 100) (hn : n + jdg v ≤ 16) : jM l jy_gch jc_gch 7 jr_gch 0 0 0 0 u0 H0 [.int (nI v), .int (nI (n + jdg v)), .ref d] (jA b d) (fun r H1 => r = some (.int (nI n)) ∧ va_P D jcl (jw b d cA (jdf f n v) n) H1 ∧ va_S (jA b d) H0 H1 []) := by
  refine jM.of (by decide +kernel) (Nat.le_of_ble_eq_true rfl) ?_
  rintro p e s m below meth c ls ⟨hx, hb, hr, hml, hts, hown, hlk, hal, rfl⟩ hl
  obtain ⟨hK, hP, hbd, hZ⟩ := hB.moved hal
  obtain ⟨⟨t1, t2⟩, t3, t4⟩ := hT.moved hal
  obtain ⟨n1, n2, n3⟩ := j_nn v hv
  have hS : va_S (jA b d) s.heap s.heap [] := va_S.rf
  have hD := j_D (n := n) (cA := cA) (f := f) hbd
  have hl : lv_has ls 7 [(0, .int (nI v)), (1, .int (nI (n + jdg v))), (2, .ref d)] := hl
  have enn : -(-(nI v)) = nI v := Int32.neg_neg
  refine lv_iload_n hx hb dj_gch_0 rfl (lv_at hl 1 rfl) ?_
  refine lv_istore (lv' := [(5, .int (nI (n + jdg v))), (0, .int (nI v)), (1, .int (nI (n + jdg v))), (2, .ref d)]) hx hb dj_gch_1 hl (by decide) rfl (fun ls hl => ?_)
  refine lv_iload_n hx hb dj_gch_3 rfl (lv_at hl 1 rfl) ?_
  refine lv_if_ge (tgt := 11) hx hb dj_gch_4 (by decide) (fun _ => ?_) (fun q => absurd (nI_pos' (by omega)) q)
  refine lv_iconst (v := 0) hx hb dj_gch_11 (by decide) ?_
  refine lv_istore (lv' := [(6, .int 0), (5, .int (nI (n + jdg v))), (0, .int (nI v)), (1, .int (nI (n + jdg v))), (2, .ref d)]) hx hb dj_gch_12 hl (by decide) rfl (fun ls hl => ?_)
  refine lv_iload hx hb dj_gch_14 (lv_at hl 0 rfl) ?_
  refine lv_if_ne (tgt := 22) hx hb dj_gch_16 (by decide) (fun q => absurd rfl q) (fun _ => ?_)
  refine lv_iload_n hx hb dj_gch_19 rfl (lv_at hl 2 rfl) ?_
  refine lv_ineg hx hb dj_gch_20 ?_
  refine lv_istore_n (lv' := [(0, .int (-(nI v))), (6, .int 0), (5, .int (nI (n + jdg v))), (1, .int (nI (n + jdg v))), (2, .ref d)]) hx hb dj_gch_21 rfl hl (by decide) rfl (fun ls hl => ?_)
  refine lv_iload_n hx hb dj_gch_22 rfl (lv_at hl 0 rfl) ?_
  refine lv_bipush (v := -100) hx hb dj_gch_23 (by decide) ?_
  refine lv_icmp_gt (tgt := 72) hx hb dj_gch_25 (by decide) (fun _ => ?_) (fun q => absurd n3 q)
  refine lv_aload_n hx hb dj_gch_72 rfl (lv_at hl 4 rfl) ?_
  by_cases h10 : v < 10
  · have e1 : jdg v = 1 := if_pos h10
    rw [e1] at hl hn
    refine lv_iinc (lv' := [(5, .int (nI n)), (0, .int (-(nI v))), (6, .int 0), (1, .int (nI (n + 1))), (2, .ref d)]) (v := nI n) hx hb dj_gch_73 hl (k := 2) rfl (j_dec n) (by decide) rfl (fun ls hl => ?_)
    refine lv_iload hx hb dj_gch_76 (lv_at hl 0 rfl) ?_
    refine va_gets hx hb t1 hS hown (hts _ j_w1297) (fun _ h => h) dj_gch_78 ?_
    refine lv_iload_n hx hb dj_gch_81 rfl (lv_at hl 1 rfl) ?_
    refine lv_ineg hx hb dj_gch_82 ?_
    rw [enn]
    refine j_tld hx hb t2 hS hv (by decide) dj_gch_83 ?_
    refine va_bast hx hb hK hP hD hS 1 0 rfl rfl (vp_in_nI (by omega) (by omega)) dj_gch_84 (fun H1 locs1 hP hD hS => ?_)
    rw [nI_clamp (by omega), j_narb _ (by omega)] at hP hD
    refine lv_iload_n hx hb dj_gch_85 rfl (lv_at hl 1 rfl) ?_
    refine lv_bipush (v := -9) hx hb dj_gch_86 (by decide) ?_
    refine lv_icmp_ge (tgt := 104) hx hb dj_gch_88 (by decide) (fun _ => ?_) (fun q => absurd (n1 h10).2 q)
    refine lv_iload hx hb dj_gch_104 (lv_at hl 2 rfl) ?_
    refine lv_if_eq (tgt := 118) hx hb dj_gch_106 (by decide) (fun _ => ?_) (fun q => absurd rfl q)
    refine lv_iload hx hb dj_gch_118 (lv_at hl 0 rfl) ?_
    have ef : jdf f n v = upd f n (nI (48 + v % 10)) := by rw [Nat.mod_eq_of_lt h10]; exact if_pos h10
    exact jret_i hx hb hr rfl hlk ⟨rfl, by rw [ef]; exact hP, hS.bare⟩ hS.2.2 (Nat.le_refl _) (Nat.le_refl _) dj_gch_120
  · have e1 : jdg v = 2 := if_neg h10
    rw [e1] at hl hn
    refine lv_iinc (lv' := [(5, .int (nI (n + 1))), (0, .int (-(nI v))), (6, .int 0), (1, .int (nI (n + 2))), (2, .ref d)]) (v := nI (n + 1)) hx hb dj_gch_73 hl (k := 2) rfl (j_dec (n + 1)) (by decide) rfl (fun ls hl => ?_)
    refine lv_iload hx hb dj_gch_76 (lv_at hl 0 rfl) ?_
    refine va_gets hx hb t1 hS hown (hts _ j_w1297) (fun _ h => h) dj_gch_78 ?_
    refine lv_iload_n hx hb dj_gch_81 rfl (lv_at hl 1 rfl) ?_
    refine lv_ineg hx hb dj_gch_82 ?_
    rw [enn]
    refine j_tld hx hb t2 hS hv (by decide) dj_gch_83 ?_
    refine va_bast hx hb hK hP hD hS 1 0 rfl rfl (vp_in_nI (by omega) (by omega)) dj_gch_84 (fun H1 locs1 hP hD hS => ?_)
    rw [nI_clamp (by omega), j_narb _ (by omega)] at hP hD
    refine lv_iload_n hx hb dj_gch_85 rfl (lv_at hl 1 rfl) ?_
    refine lv_bipush (v := -9) hx hb dj_gch_86 (by decide) ?_
    refine lv_icmp_ge (tgt := 104) hx hb dj_gch_88 (by decide) (fun q => absurd q (n2 (by omega)).2.2) (fun _ => ?_)
    refine lv_aload_n hx hb dj_gch_91 rfl (lv_at hl 4 rfl) ?_
    refine lv_iinc (lv' := [(5, .int (nI n)), (0, .int (-(nI v))), (6, .int 0), (1, .int (nI (n + 2))), (2, .ref d)]) (v := nI n) hx hb dj_gch_92 hl (k := 0) rfl (j_dec n) (by decide) rfl (fun ls hl => ?_)
    refine lv_iload hx hb dj_gch_95 (lv_at hl 0 rfl) ?_
    refine va_gets hx hb t3 hS hown (hts _ j_w1299) (fun _ h => h) dj_gch_97 ?_
    refine lv_iload_n hx hb dj_gch_100 rfl (lv_at hl 1 rfl) ?_
    refine lv_ineg hx hb dj_gch_101 ?_
    rw [enn]
    refine j_tld hx hb t4 hS hv (by decide) dj_gch_102 ?_
    refine va_bast hx hb hK hP hD hS 1 0 rfl rfl (vp_in_nI (by omega) (by omega)) dj_gch_103 (fun H2 locs2 hP hD hS => ?_)
    rw [nI_clamp (by omega), j_narb _ (by omega)] at hP
    refine lv_iload hx hb dj_gch_104 (lv_at hl 2 rfl) ?_
    refine lv_if_eq (tgt := 118) hx hb dj_gch_106 (by decide) (fun _ => ?_) (fun q => absurd rfl q)
    refine lv_iload hx hb dj_gch_118 (lv_at hl 0 rfl) ?_
    have ef : jdf f n v = upd (upd f (n + 1) (nI (48 + v % 10))) n (nI (48 + v / 10)) := if_neg h10
    exact jret_i hx hb hr rfl hlk ⟨rfl, by rw [ef]; exact hP, hS.bare⟩ hS.2.2 (Nat.le_refl _) (Nat.le_refl _) dj_gch_120
theorem mj_aai (hB : jB D cA b d n f u0 H0) (hT : jTb q1 q2 (jA b d) u0 H0) (hv : v < 100) (hn : n + jdg v ≤ 16) : jM l jy_aai jc_aai 4 jr_aai 1 30 0 0 u0 H0 [.ref b, .int (nI v)] (jA b d) (fun r H1 => r = some (.ref b) ∧ va_P D jcl (jw b d cA (jdf f n v) (n + jdg v)) H1 ∧ va_S (jA b d) H0 H1 []) := by
  refine jM.of (by decide +kernel) (Nat.le_of_ble_eq_true rfl) ?_
  rintro p e s m below meth c ls ⟨hx, hb, hr, hml, hts, hown, hlk, hal, rfl⟩ hl
  have hl : lv_has ls 4 [(0, .ref b), (1, .int (nI v))] := hl
  have hB := hB.moved hal
  have hT := hT.moved hal
  obtain ⟨hK, hP, hbd, hZ⟩ := id hB
  obtain ⟨cb, g5, g6, g7, -⟩ := hB.cell
  refine lv_aload_n hx hb dj_aai_0 rfl (lv_at hl 0 rfl) ?_
  refine va_get (C := RJ4) (T := TJ4) (N := 4) (ci := 0) (v := .int (nI n)) hx hb hts j_bw hown hK hP 0 rfl rfl 3 (by decide) (hts _ j_w1174) (fun _ h => h) rfl dj_aai_1 ?_
  refine lv_istore_n (lv' := [(2, .int (nI n)), (0, .ref b), (1, .int (nI v))]) hx hb dj_aai_4 rfl hl (by decide) rfl (fun ls hl => ?_)
  refine lv_iload_n hx hb dj_aai_5 rfl (lv_at hl 0 rfl) ?_
  refine lv_iload_n hx hb dj_aai_6 rfl (lv_at hl 2 rfl) ?_
  refine jS (av := [.int (nI v)]) (rest := [.int (nI n)]) (k := 1) (ix := 245) (mj_siz l (u0 := s) (H0 := s.heap) hv) hx hb (hml.trans hl.1.symm) hown hts (hts _ j_w1291) j_w1292 j_w33 j_w1293 (by decide) (by decide +kernel) rfl (by decide) (by decide) ⟨Nat.le_refl _, Nat.le_refl _⟩ (Nat.le_of_ble_eq_true rfl) dj_aai_7 ?_
  rintro r H1 L ⟨rfl, rfl⟩ hL
  refine lv_iadd hx hb dj_aai_10 ?_
  rw [nI_add]
  refine lv_istore_n (lv' := [(3, .int (nI (n + jdg v))), (2, .int (nI n)), (0, .ref b), (1, .int (nI v))]) hx hb dj_aai_11 rfl hl (by decide) rfl (fun ls hl => ?_)
  refine lv_aload_n hx hb dj_aai_12 rfl (lv_at hl 2 rfl) ?_
  refine lv_iload_n hx hb dj_aai_13 rfl (lv_at hl 0 rfl) ?_
  refine jU (C := "java/lang/StringBuilder") (al := [.int (nI (n + jdg v))]) (rest := []) (k := 1) (ix := 100) (mj_ens l (u0 := s) (H0 := s.heap) hB hn) hx hb (hml.trans hl.1.symm) hown hts (hts _ j_w1196) j_w1198 j_w28 j_w1199 (hts _ (List.mem_append_right _ j_X_ens)) j_w1393 (by decide) (by decide +kernel) rfl g5 g6 g7 (by decide) (by decide) ⟨Nat.le_refl _, Nat.le_refl _⟩ (by decide) dj_aai_14 ?_
  rintro r H1 L2 ⟨rfl, rfl⟩ hL2
  refine lv_aload_n hx hb dj_aai_17 rfl (lv_at hl 2 rfl) ?_
  refine jU (C := "java/lang/StringBuilder") (al := []) (rest := []) (k := 0) (ix := 83) (mj_alat l (u0 := s) (H0 := s.heap) hB) hx hb (hml.trans hl.1.symm) hown hts (hts _ j_w1229) j_w1230 j_w28 j_w1233 (hts _ j_w1232) j_w1231 (by decide) (by decide +kernel) rfl g5 g6 g7 (by decide) (by decide) ⟨Nat.le_refl _, Nat.le_refl _⟩ (by decide) dj_aai_18 ?_
  rintro r H1 L3 ⟨rfl, rfl⟩ hL3
  refine lv_if_eq (tgt := 37) hx hb dj_aai_21 (by decide) (fun q => absurd q (by decide)) (fun _ => ?_)
  refine lv_iload_n hx hb dj_aai_24 rfl (lv_at hl 3 rfl) ?_
  refine lv_iload_n hx hb dj_aai_25 rfl (lv_at hl 0 rfl) ?_
  refine lv_aload_n hx hb dj_aai_26 rfl (lv_at hl 2 rfl) ?_
  refine va_get (C := RJ4) (T := TJ4) (N := 4) (ci := 0) (v := .ref d) hx hb hts j_bw hown hK hP 0 rfl rfl 0 (by decide) (hts _ j_w1171) (fun _ h => h) rfl dj_aai_27 ?_
  refine jS (av := [.int (nI v), .int (nI (n + jdg v)), .ref d]) (rest := []) (k := 3) (ix := 248) (mj_gch l (u0 := s) (H0 := s.heap) hB hT hv hn) hx hb (hml.trans hl.1.symm) hown hts (hts _ j_w1294) j_w1295 j_w33 j_w1296 (by decide) (by decide +kernel) rfl (by decide) (by decide) ⟨Nat.le_refl _, Nat.le_refl _⟩ (by decide) dj_aai_30 ?_
  rintro r H1 L4 ⟨rfl, hP, h9⟩ hL4
  have hS := h9.locs (l1 := [] ++ L ++ L2 ++ L3) (L := L4) (fun q hq => (List.mem_append.mp hq).elim (fun h => (List.mem_append.mp h).elim (fun h => (hL q h).elim) (fun h => (hL2 q h).elim)) (fun h => (hL3 q h).elim)) hL4
  have hD := j_D (n := n) (cA := cA) (f := jdf f n v) hbd
  refine lv_pop hx hb dj_aai_33 rfl ?_
  refine lv_goto (tgt := 48) hx hb dj_aai_34 (by decide) ?_
  refine lv_aload_n hx hb dj_aai_48 rfl (lv_at hl 2 rfl) ?_
  refine lv_iload_n hx hb dj_aai_49 rfl (lv_at hl 0 rfl) ?_
  refine va_put (C := RJ4) (T := TJ4) (N := 4) (ci := 0) hx hb hts j_bw tyJ4 tyJ4_ok nmJ4 hown hK hP hD hS 0 rfl rfl 3 (by decide) (hts _ j_w1174) (fun _ h => h) rfl (ty := .int) (v := .int (nI (n + jdg v))) (by decide +kernel) rfl rfl (show (3 : Nat) < 4 by decide) dj_aai_50 (fun H2 locs2 hP hD hS => ?_)
  refine lv_aload_n hx hb dj_aai_53 rfl (lv_at hl 2 rfl) ?_
  exact jret_a hx hb hr (Or.inl ⟨_, rfl⟩) hlk ⟨rfl, hP, hS.bare⟩ hS.2.2 (Nat.le_refl _) (Nat.le_refl _) dj_aai_54
theorem mj_bai (hB : jB D cA b d n f u0 H0) (hT : jTb q1 q2 (jA b d) u0 H0) (hv : v < 100) (hn : n + jdg v ≤ 16) : jM l jy_bai jc_bai 2 jr_bai 2 53 0 0 u0 H0 [.ref b, .int (nI v)] (jA b d) (fun r H1 => r = some (.ref b) ∧ va_P D jcl (jw b d cA (jdf f n v) (n + jdg v)) H1 ∧ va_S (jA b d) H0 H1 []) := by
  refine jM.of (by decide +kernel) (Nat.le_of_ble_eq_true rfl) ?_
  rintro p e s m below meth c ls ⟨hx, hb, hr, hml, hts, hown, hlk, hal, rfl⟩ hl
  have hl : lv_has ls 2 [(0, .ref b), (1, .int (nI v))] := hl
  have hB := hB.moved hal
  obtain ⟨cb, g5, g6, -, kC, g8⟩ := hB.cell
  refine lv_aload_n hx hb dj_bai_0 rfl (lv_at hl 0 rfl) ?_
  refine lv_iload_n hx hb dj_bai_1 rfl (lv_at hl 1 rfl) ?_
  refine jSU (al := [.int (nI v)]) (rest := []) (k := 1) (ix := 53) (mj_aai l (u0 := s) (H0 := s.heap) hB (hT.moved hal) hv hn) hx hb (hml.trans hl.1.symm) hown hts (hts _ j_w1288) j_w1289 j_w28 j_w1290 j_w1183 j_w1398 (by decide) (by decide +kernel) rfl g5 g6 g8 (by decide) (by decide) ⟨Nat.le_refl _, Nat.le_refl _⟩ (by decide) dj_bai_2 ?_
  rintro r H1 L ⟨rfl, h8, h9⟩ hL
  refine lv_pop hx hb dj_bai_5 rfl ?_
  refine lv_aload_n hx hb dj_bai_6 rfl (lv_at hl 0 rfl) ?_
  exact jret_a hx hb hr (Or.inl ⟨_, rfl⟩) hlk ⟨rfl, h8, h9⟩ hL (Nat.le_refl _) (Nat.le_refl _) dj_bai_7
end JI1
end
section
/-! THE JDK's OWN METHODS: the String out of a StringBuilder -/
abbrev jy_ckl : MethodName := ⟨"java/util/Arrays", "checkLength", "(II)V"⟩
abbrev jc_ckl : ByteArray := prog_39_method_131_code
abbrev jr_ckl : Option FieldType := (Option.none : Option Jvm.ClassFile.FieldType)
abbrev jy_corb : MethodName := ⟨"java/util/Arrays", "copyOfRangeByte", "([BII)[B"⟩
abbrev jc_corb : ByteArray := prog_39_method_133_code
abbrev jr_corb : Option FieldType := (Option.some (Jvm.ClassFile.FieldType.array Jvm.ClassFile.FieldType.byte))
abbrev jy_cor : MethodName := ⟨"java/util/Arrays", "copyOfRange", "([BII)[B"⟩
abbrev jc_cor : ByteArray := prog_39_method_132_code
abbrev jr_cor : Option FieldType := (Option.some (Jvm.ClassFile.FieldType.array Jvm.ClassFile.FieldType.byte))
abbrev jy_blen : MethodName := ⟨"java/lang/StringBuilder", "length", "()I"⟩
abbrev jc_blen : ByteArray := prog_31_method_93_code
abbrev jr_blen : Option FieldType := (Option.some Jvm.ClassFile.FieldType.int)
abbrev jy_sia : MethodName := ⟨"java/lang/String", "<init>", "(Ljava/lang/AbstractStringBuilder;Ljava/lang/Void;)V"⟩
abbrev jc_sia : ByteArray := prog_30_method_150_code
abbrev jr_sia : Option FieldType := (Option.none : Option Jvm.ClassFile.FieldType)
abbrev jy_sib : MethodName := ⟨"java/lang/String", "<init>", "(Ljava/lang/StringBuilder;)V"⟩
abbrev jc_sib : ByteArray := prog_30_method_53_code
abbrev jr_sib : Option FieldType := (Option.none : Option Jvm.ClassFile.FieldType)
abbrev jy_bts : MethodName := ⟨"java/lang/StringBuilder", "toString", "()Ljava/lang/String;"⟩
abbrev jc_bts : ByteArray := prog_31_method_42_code
abbrev jr_bts : Option FieldType := (Option.some (Jvm.ClassFile.FieldType.object "java/lang/String"))
theorem j_w1343 : Jvm.Cond.methodLink "java/util/Arrays" (343 : Nat) ({ cls := "java/util/Arrays", name := "checkLength", desc := "(II)V" } : Jvm.MethodName) ∈ j_W := j_at_in (i := 1352) (by decide +kernel)
theorem j_w1344 : Jvm.Cond.static ({ cls := "java/util/Arrays", name := "checkLength", desc := "(II)V" } : Jvm.MethodName) ∈ j_W := j_at_in (i := 1353) (by decide +kernel)
theorem j_w32 : Jvm.Cond.initialized "java/util/Arrays" ∈ j_W := j_at_in (i := 41) (by decide +kernel)
theorem j_w1345 : Jvm.Cond.code ({ cls := "java/util/Arrays", name := "checkLength", desc := "(II)V" } : Jvm.MethodName) prog_39_method_131_code (2 : Nat) (Option.none : Option Jvm.ClassFile.FieldType) ∈ j_W := j_at_in (i := 1354) (by decide +kernel)
theorem j_w1225 : Jvm.Cond.methodLink "java/util/Arrays" (304 : Nat) ({ cls := "java/lang/Math", name := "min", desc := "(II)I" } : Jvm.MethodName) ∈ j_W := j_at_in (i := 1234) (by decide +kernel)
theorem j_w1226 : Jvm.Cond.static ({ cls := "java/lang/Math", name := "min", desc := "(II)I" } : Jvm.MethodName) ∈ j_W := j_at_in (i := 1235) (by decide +kernel)
theorem j_w31 : Jvm.Cond.initialized "java/lang/Math" ∈ j_W := j_at_in (i := 40) (by decide +kernel)
theorem j_w1227 : Jvm.Cond.code ({ cls := "java/lang/Math", name := "min", desc := "(II)I" } : Jvm.MethodName) prog_27_method_69_code (2 : Nat) (Option.some Jvm.ClassFile.FieldType.int) ∈ j_W := j_at_in (i := 1236) (by decide +kernel)
theorem j_w1228 : Jvm.Cond.methodLink "java/util/Arrays" (150 : Nat) ({ cls := "java/lang/System", name := "arraycopy", desc := "(Ljava/lang/Object;ILjava/lang/Object;II)V" } : Jvm.MethodName) ∈ j_W := j_at_in (i := 1237) (by decide +kernel)
theorem j_w1340 : Jvm.Cond.methodLink "java/util/Arrays" (339 : Nat) ({ cls := "java/util/Arrays", name := "copyOfRangeByte", desc := "([BII)[B" } : Jvm.MethodName) ∈ j_W := j_at_in (i := 1349) (by decide +kernel)
theorem j_w1341 : Jvm.Cond.static ({ cls := "java/util/Arrays", name := "copyOfRangeByte", desc := "([BII)[B" } : Jvm.MethodName) ∈ j_W := j_at_in (i := 1350) (by decide +kernel)
theorem j_w1342 : Jvm.Cond.code ({ cls := "java/util/Arrays", name := "copyOfRangeByte", desc := "([BII)[B" } : Jvm.MethodName) prog_39_method_133_code (5 : Nat) (Option.some (Jvm.ClassFile.FieldType.array Jvm.ClassFile.FieldType.byte)) ∈ j_W := j_at_in (i := 1351) (by decide +kernel)
theorem j_w1334 : Jvm.Cond.methodLink "java/lang/StringBuilder" (343 : Nat) ({ cls := "java/lang/AbstractStringBuilder", name := "length", desc := "()I" } : Jvm.MethodName) ∈ j_W := j_at_in (i := 1343) (by decide +kernel)
theorem j_w1329 : Jvm.Cond.instanceMethod ({ cls := "java/lang/AbstractStringBuilder", name := "length", desc := "()I" } : Jvm.MethodName) ∈ j_W := j_at_in (i := 1338) (by decide +kernel)
theorem j_w1335 : Jvm.Cond.code ({ cls := "java/lang/AbstractStringBuilder", name := "length", desc := "()I" } : Jvm.MethodName) prog_13_method_6_code (1 : Nat) (Option.some Jvm.ClassFile.FieldType.int) ∈ j_W := j_at_in (i := 1344) (by decide +kernel)
theorem j_w1330 : Jvm.Cond.sameMethod "java/lang/AbstractStringBuilder" "java/lang/AbstractStringBuilder" "length" "()I" ∈ j_W := j_at_in (i := 1339) (by decide +kernel)
theorem j_w1322 : Jvm.Cond.methodLink "java/lang/String" (1 : Nat) ({ cls := "java/lang/Object", name := "<init>", desc := "()V" } : Jvm.MethodName) ∈ j_W := j_at_in (i := 1331) (by decide +kernel)
theorem j_w1323 : Jvm.Cond.methodLink "java/lang/String" (552 : Nat) ({ cls := "java/lang/AbstractStringBuilder", name := "getValue", desc := "()[B" } : Jvm.MethodName) ∈ j_W := j_at_in (i := 1332) (by decide +kernel)
theorem j_w1324 : Jvm.Cond.instanceMethod ({ cls := "java/lang/AbstractStringBuilder", name := "getValue", desc := "()[B" } : Jvm.MethodName) ∈ j_W := j_at_in (i := 1333) (by decide +kernel)
theorem j_w1327 : Jvm.Cond.code ({ cls := "java/lang/AbstractStringBuilder", name := "getValue", desc := "()[B" } : Jvm.MethodName) prog_13_method_64_code (1 : Nat) (Option.some (Jvm.ClassFile.FieldType.array Jvm.ClassFile.FieldType.byte)) ∈ j_W := j_at_in (i := 1336) (by decide +kernel)
theorem j_w1326 : Jvm.Cond.selects "java/lang/StringBuilder" ({ cls := "java/lang/AbstractStringBuilder", name := "getValue", desc := "()[B" } : Jvm.MethodName) ({ cls := "java/lang/AbstractStringBuilder", name := "getValue", desc := "()[B" } : Jvm.MethodName) ∈ j_W := j_at_in (i := 1335) (by decide +kernel)
theorem j_w1325 : Jvm.Cond.sameMethod "java/lang/AbstractStringBuilder" "java/lang/AbstractStringBuilder" "getValue" "()[B" ∈ j_W := j_at_in (i := 1334) (by decide +kernel)
theorem j_w1328 : Jvm.Cond.methodLink "java/lang/String" (549 : Nat) ({ cls := "java/lang/AbstractStringBuilder", name := "length", desc := "()I" } : Jvm.MethodName) ∈ j_W := j_at_in (i := 1337) (by decide +kernel)
theorem j_w1332 : Jvm.Cond.instanceMethod ({ cls := "java/lang/StringBuilder", name := "length", desc := "()I" } : Jvm.MethodName) ∈ j_W := j_at_in (i := 1341) (by decide +kernel)
theorem j_w29 : Jvm.Cond.initialized "java/lang/StringBuilder" ∈ j_W := j_at_in (i := 38) (by decide +kernel)
theorem j_w1333 : Jvm.Cond.code ({ cls := "java/lang/StringBuilder", name := "length", desc := "()I" } : Jvm.MethodName) prog_31_method_93_code (1 : Nat) (Option.some Jvm.ClassFile.FieldType.int) ∈ j_W := j_at_in (i := 1342) (by decide +kernel)
theorem j_w1331 : Jvm.Cond.selects "java/lang/StringBuilder" ({ cls := "java/lang/AbstractStringBuilder", name := "length", desc := "()I" } : Jvm.MethodName) ({ cls := "java/lang/StringBuilder", name := "length", desc := "()I" } : Jvm.MethodName) ∈ j_W := j_at_in (i := 1340) (by decide +kernel)
theorem j_w1336 : Jvm.Cond.methodLink "java/lang/String" (1047 : Nat) ({ cls := "java/lang/AbstractStringBuilder", name := "isLatin1", desc := "()Z" } : Jvm.MethodName) ∈ j_W := j_at_in (i := 1345) (by decide +kernel)
theorem j_w1337 : Jvm.Cond.methodLink "java/lang/String" (54 : Nat) ({ cls := "java/util/Arrays", name := "copyOfRange", desc := "([BII)[B" } : Jvm.MethodName) ∈ j_W := j_at_in (i := 1346) (by decide +kernel)
theorem j_w1338 : Jvm.Cond.static ({ cls := "java/util/Arrays", name := "copyOfRange", desc := "([BII)[B" } : Jvm.MethodName) ∈ j_W := j_at_in (i := 1347) (by decide +kernel)
theorem j_w1339 : Jvm.Cond.code ({ cls := "java/util/Arrays", name := "copyOfRange", desc := "([BII)[B" } : Jvm.MethodName) prog_39_method_132_code (3 : Nat) (Option.some (Jvm.ClassFile.FieldType.array Jvm.ClassFile.FieldType.byte)) ∈ j_W := j_at_in (i := 1348) (by decide +kernel)
theorem j_w1319 : Jvm.Cond.methodLink "java/lang/String" (489 : Nat) ({ cls := "java/lang/String", name := "<init>", desc := "(Ljava/lang/AbstractStringBuilder;Ljava/lang/Void;)V" } : Jvm.MethodName) ∈ j_W := j_at_in (i := 1328) (by decide +kernel)
theorem j_w1320 : Jvm.Cond.instanceMethod ({ cls := "java/lang/String", name := "<init>", desc := "(Ljava/lang/AbstractStringBuilder;Ljava/lang/Void;)V" } : Jvm.MethodName) ∈ j_W := j_at_in (i := 1329) (by decide +kernel)
theorem j_w1321 : Jvm.Cond.code ({ cls := "java/lang/String", name := "<init>", desc := "(Ljava/lang/AbstractStringBuilder;Ljava/lang/Void;)V" } : Jvm.MethodName) prog_30_method_150_code (5 : Nat) (Option.none : Option Jvm.ClassFile.FieldType) ∈ j_W := j_at_in (i := 1330) (by decide +kernel)
theorem j_w1315 : Jvm.Cond.classLink "java/lang/StringBuilder" (18 : Nat) "java/lang/String" ∈ j_W := j_at_in (i := 1324) (by decide +kernel)
theorem j_w659 : Jvm.Cond.instantiable "java/lang/String" (4 : Nat) ∈ j_W := j_at_in (i := 668) (by decide +kernel)
theorem j_w1316 : Jvm.Cond.methodLink "java/lang/StringBuilder" (137 : Nat) ({ cls := "java/lang/String", name := "<init>", desc := "(Ljava/lang/StringBuilder;)V" } : Jvm.MethodName) ∈ j_W := j_at_in (i := 1325) (by decide +kernel)
theorem j_w1317 : Jvm.Cond.instanceMethod ({ cls := "java/lang/String", name := "<init>", desc := "(Ljava/lang/StringBuilder;)V" } : Jvm.MethodName) ∈ j_W := j_at_in (i := 1326) (by decide +kernel)
theorem j_w1318 : Jvm.Cond.code ({ cls := "java/lang/String", name := "<init>", desc := "(Ljava/lang/StringBuilder;)V" } : Jvm.MethodName) prog_30_method_53_code (2 : Nat) (Option.none : Option Jvm.ClassFile.FieldType) ∈ j_W := j_at_in (i := 1327) (by decide +kernel)
theorem dj_ckl_0 : decode jc_ckl 0 = .ok (.iload_n 1, 1) := by decide +kernel
theorem dj_ckl_1 : decode jc_ckl 1 = .ok (.iload_n 0, 1) := by decide +kernel
theorem dj_ckl_2 : decode jc_ckl 2 = .ok (.if_icmp .ge 35, 3) := by decide +kernel
theorem dj_ckl_37 : decode jc_ckl 37 = .ok (.return_, 1) := by decide +kernel
theorem dj_corb_0 : decode jc_corb 0 = .ok (.iload_n 1, 1) := by decide +kernel
theorem dj_corb_1 : decode jc_corb 1 = .ok (.iload_n 2, 1) := by decide +kernel
theorem dj_corb_2 : decode jc_corb 2 = .ok (.invokestatic 343, 3) := by decide +kernel
theorem dj_corb_5 : decode jc_corb 5 = .ok (.iload_n 2, 1) := by decide +kernel
theorem dj_corb_6 : decode jc_corb 6 = .ok (.iload_n 1, 1) := by decide +kernel
theorem dj_corb_7 : decode jc_corb 7 = .ok (.isub, 1) := by decide +kernel
theorem dj_corb_8 : decode jc_corb 8 = .ok (.istore_n 3, 1) := by decide +kernel
theorem dj_corb_9 : decode jc_corb 9 = .ok (.iload_n 3, 1) := by decide +kernel
theorem dj_corb_10 : decode jc_corb 10 = .ok (.newarray .byte, 2) := by decide +kernel
theorem dj_corb_12 : decode jc_corb 12 = .ok (.astore 4, 2) := by decide +kernel
theorem dj_corb_14 : decode jc_corb 14 = .ok (.aload_n 0, 1) := by decide +kernel
theorem dj_corb_15 : decode jc_corb 15 = .ok (.iload_n 1, 1) := by decide +kernel
theorem dj_corb_16 : decode jc_corb 16 = .ok (.aload 4, 2) := by decide +kernel
theorem dj_corb_18 : decode jc_corb 18 = .ok (.iconst 0, 1) := by decide +kernel
theorem dj_corb_19 : decode jc_corb 19 = .ok (.aload_n 0, 1) := by decide +kernel
theorem dj_corb_20 : decode jc_corb 20 = .ok (.arraylength, 1) := by decide +kernel
theorem dj_corb_21 : decode jc_corb 21 = .ok (.iload_n 1, 1) := by decide +kernel
theorem dj_corb_22 : decode jc_corb 22 = .ok (.isub, 1) := by decide +kernel
theorem dj_corb_23 : decode jc_corb 23 = .ok (.iload_n 3, 1) := by decide +kernel
theorem dj_corb_24 : decode jc_corb 24 = .ok (.invokestatic 304, 3) := by decide +kernel
theorem dj_corb_27 : decode jc_corb 27 = .ok (.invokestatic 150, 3) := by decide +kernel
theorem dj_corb_30 : decode jc_corb 30 = .ok (.aload 4, 2) := by decide +kernel
theorem dj_corb_32 : decode jc_corb 32 = .ok (.areturn, 1) := by decide +kernel
theorem dj_cor_0 : decode jc_cor 0 = .ok (.iload_n 1, 1) := by decide +kernel
theorem dj_cor_1 : decode jc_cor 1 = .ok (.ifCond .ne 9, 3) := by decide +kernel
theorem dj_cor_4 : decode jc_cor 4 = .ok (.iload_n 2, 1) := by decide +kernel
theorem dj_cor_5 : decode jc_cor 5 = .ok (.aload_n 0, 1) := by decide +kernel
theorem dj_cor_6 : decode jc_cor 6 = .ok (.arraylength, 1) := by decide +kernel
theorem dj_cor_7 : decode jc_cor 7 = .ok (.if_icmp .eq 10, 3) := by decide +kernel
theorem dj_cor_10 : decode jc_cor 10 = .ok (.aload_n 0, 1) := by decide +kernel
theorem dj_cor_11 : decode jc_cor 11 = .ok (.iload_n 1, 1) := by decide +kernel
theorem dj_cor_12 : decode jc_cor 12 = .ok (.iload_n 2, 1) := by decide +kernel
theorem dj_cor_13 : decode jc_cor 13 = .ok (.invokestatic 339, 3) := by decide +kernel
theorem dj_cor_16 : decode jc_cor 16 = .ok (.areturn, 1) := by decide +kernel
theorem dj_blen_0 : decode jc_blen 0 = .ok (.aload_n 0, 1) := by decide +kernel
theorem dj_blen_1 : decode jc_blen 1 = .ok (.invokespecial 343, 3) := by decide +kernel
theorem dj_blen_4 : decode jc_blen 4 = .ok (.ireturn, 1) := by decide +kernel
theorem dj_sia_0 : decode jc_sia 0 = .ok (.aload_n 0, 1) := by decide +kernel
theorem dj_sia_1 : decode jc_sia 1 = .ok (.invokespecial 1, 3) := by decide +kernel
theorem dj_sia_4 : decode jc_sia 4 = .ok (.aload_n 1, 1) := by decide +kernel
theorem dj_sia_5 : decode jc_sia 5 = .ok (.invokevirtual 552, 3) := by decide +kernel
theorem dj_sia_8 : decode jc_sia 8 = .ok (.astore_n 3, 1) := by decide +kernel
theorem dj_sia_9 : decode jc_sia 9 = .ok (.aload_n 1, 1) := by decide +kernel
theorem dj_sia_10 : decode jc_sia 10 = .ok (.invokevirtual 549, 3) := by decide +kernel
theorem dj_sia_13 : decode jc_sia 13 = .ok (.istore 4, 2) := by decide +kernel
theorem dj_sia_15 : decode jc_sia 15 = .ok (.aload_n 1, 1) := by decide +kernel
theorem dj_sia_16 : decode jc_sia 16 = .ok (.invokevirtual 1047, 3) := by decide +kernel
theorem dj_sia_19 : decode jc_sia 19 = .ok (.ifCond .eq 22, 3) := by decide +kernel
theorem dj_sia_22 : decode jc_sia 22 = .ok (.aload_n 0, 1) := by decide +kernel
theorem dj_sia_23 : decode jc_sia 23 = .ok (.iconst 0, 1) := by decide +kernel
theorem dj_sia_24 : decode jc_sia 24 = .ok (.putfield 15, 3) := by decide +kernel
theorem dj_sia_27 : decode jc_sia 27 = .ok (.aload_n 0, 1) := by decide +kernel
theorem dj_sia_28 : decode jc_sia 28 = .ok (.aload_n 3, 1) := by decide +kernel
theorem dj_sia_29 : decode jc_sia 29 = .ok (.iconst 0, 1) := by decide +kernel
theorem dj_sia_30 : decode jc_sia 30 = .ok (.iload 4, 2) := by decide +kernel
theorem dj_sia_32 : decode jc_sia 32 = .ok (.invokestatic 54, 3) := by decide +kernel
theorem dj_sia_35 : decode jc_sia 35 = .ok (.putfield 9, 3) := by decide +kernel
theorem dj_sia_38 : decode jc_sia 38 = .ok (.goto 59, 3) := by decide +kernel
theorem dj_sia_97 : decode jc_sia 97 = .ok (.return_, 1) := by decide +kernel
theorem dj_sib_0 : decode jc_sib 0 = .ok (.aload_n 0, 1) := by decide +kernel
theorem dj_sib_1 : decode jc_sib 1 = .ok (.aload_n 1, 1) := by decide +kernel
theorem dj_sib_2 : decode jc_sib 2 = .ok (.aconst_null, 1) := by decide +kernel
theorem dj_sib_3 : decode jc_sib 3 = .ok (.invokespecial 489, 3) := by decide +kernel
theorem dj_sib_6 : decode jc_sib 6 = .ok (.return_, 1) := by decide +kernel
theorem dj_bts_0 : decode jc_bts 0 = .ok (.new 18, 3) := by decide +kernel
theorem dj_bts_3 : decode jc_bts 3 = .ok (.dup, 1) := by decide +kernel
theorem dj_bts_4 : decode jc_bts 4 = .ok (.aload_n 0, 1) := by decide +kernel
theorem dj_bts_5 : decode jc_bts 5 = .ok (.invokespecial 137, 3) := by decide +kernel
theorem dj_bts_8 : decode jc_bts 8 = .ok (.areturn, 1) := by decide +kernel
theorem jM.ofI {l : Launch} {y : MethodName} {cc : ByteArray} {n : Nat} {ret : Option FieldType} {fr lo mc ms : Nat} {u0 : State} {H0 : Heap} {av : List Value} {A : Nat → Prop} {post : Option Value → Heap → Prop} (hy : plainFor y = true) (hn : (lg_sl av).length ≤ n)
    (body : ∀ (p : Program) (e : Env) (s : State) (m : MethodId) (below : List Frame) (meth : Method) (c : Code) (ls : Array Slot), jAt p y cc n ret u0 H0 av s m meth c → meth.name = y.name → lv_has ls n (lv_args 0 av) → W p l e (jrm fr lo mc ms) s m av.toArray below meth c s.heap [] 0 0 (MQ below (jQ post) av.toArray s mc ms A) (F0 m 0 ls [])) :
    jM l y cc n ret fr lo mc ms u0 H0 av A post := by
  refine va_MetF (cc := cc) (maxL := n) (ret := ret) hy rfl ?_
  intro p e s m args below meth c s₁ B hml hv
  obtain ⟨rfl, hh, hal⟩ := hv
  have hts := atoms_spec (ws := jws y cc n ret) B.pre
  have hl := lv_entry av hn
  rw [lg_entry_eq]
  exact body p e s m below meth c _ ⟨B.exec, B.bytes, B.returns, hml, fun w h => hts w (List.mem_cons_of_mem _ h), findClass_of_methodNamed B.named, B.notSynchronized, hal, hh⟩ (name_of_methodNamed B.named B.method).1 hl
/-- a row of bytes, read alone -/
theorem j_T_of {D : va_G} {cA : ClassId} {d N : Nat} {f : Nat → Int32} {A : Nat → Prop} {U : State} {H : Heap} (hK : va_K D jcl [(cA, .byte)] U) (h : H[d]? = some (arrV cA N (fun j => .int (f j)))) (hA : ¬ A d) : va_T .byte d N (fun j => .int (f j)) A U H :=
  ⟨_, h, (hK.2 0 _ rfl).1 N (fun j => .int (f j)), (fun q => by cases q), Nat.le_of_eq (arrV_size _ _ _).symm, congrArg Nat.toInt32 (arrV_size _ _ _), fun j hj => arrV_read _ _ hj, hA⟩
theorem j_D2 {A : Nat → Prop} {a x : Nat} {e1 e2 : va_E} (hne : a ≠ x) (ha : A a) (hx : A x) : va_D A [(a, e1), (x, e2)] := by
  have key : ∀ (i : Nat) (q : Nat × va_E), ([(a, e1), (x, e2)] : va_W)[i]? = some q → (i = 0 ∧ q.1 = a) ∨ (i = 1 ∧ q.1 = x) := by
    intro i q hi
    match i, hi with
    | 0, hi => exact Or.inl ⟨rfl, by rw [← Option.some.inj hi]⟩
    | 1, hi => exact Or.inr ⟨rfl, by rw [← Option.some.inj hi]⟩
    | k + 2, hi => simp at hi
  refine ⟨fun i j q z hi hj e => ?_, fun i q hi => ?_⟩
  · rcases key i q hi with ⟨h1, h2⟩ | ⟨h1, h2⟩ <;> rcases key j z hj with ⟨h3, h4⟩ | ⟨h3, h4⟩
    · omega
    · exact absurd (h2.symm.trans (e.trans h4)) hne
    · exact absurd (h4.symm.trans (e.symm.trans h2)) hne
    · omega
  · rcases key i q hi with ⟨-, h2⟩ | ⟨-, h2⟩
    · rw [h2]; exact ha
    · rw [h2]; exact hx
abbrev jNw (z : Nat) : Nat → Prop := fun q => z ≤ q
section JTS
variable (l : Launch) {u0 : State} {H0 : Heap} {D : va_G} {cA : ClassId} {a b d n : Nat} {f : Nat → Int32}
theorem mj_ck (hn : n < 2147483648) : jM l jy_ckl jc_ckl 2 jr_ckl 0 0 0 0 u0 H0 [.int 0, .int (nI n)] jNo (fun v H => v = none ∧ H = H0) := by
  refine jM.of (by decide +kernel) (Nat.le_of_ble_eq_true rfl) ?_
  rintro p e s m below meth c ls ⟨hx, hb, hr, hml, hts, hown, hlk, hal, rfl⟩ hl
  have hl : lv_has ls 2 [(0, .int 0), (1, .int (nI n))] := hl
  refine lv_iload_n hx hb dj_ckl_0 rfl (lv_at hl 1 rfl) ?_
  refine lv_iload_n hx hb dj_ckl_1 rfl (lv_at hl 0 rfl) ?_
  refine lv_icmp_ge (tgt := 37) hx hb dj_ckl_2 (by decide) (fun _ => ?_) (fun q => absurd (nI_pos' (by omega)) q)
  exact jret_v hx hb hr hlk ⟨rfl, rfl⟩ j_nil (Nat.le_refl _) (Nat.le_refl _) dj_ckl_37
abbrev jCp (cA : ClassId) (f : Nat → Int32) (n : Nat) (H0 : Heap) (v : Option Value) (H1 : Heap) : Prop := v = some (.ref H0.size) ∧ (∃ f' : Nat → Int32, (∀ j, j < n → f' j = f j) ∧ H1[H0.size]? = some (arrV cA n (fun j => .int (f' j)))) ∧ va_S (jNw H0.size) H0 H1 []
theorem mj_corb (hK : va_K D jcl [(cA, .byte)] u0) (hd : H0[d]? = some (arrV cA 16 (fun j => .int (f j)))) (hn : n < 16) (hf : ∀ j, j < n → fits .byte (.int (f j)) = true) : jM l jy_corb jc_corb 5 jr_corb 1 26 1 16 u0 H0 [.ref d, .int 0, .int (nI n)] (jNw H0.size) (jCp cA f n H0) := by
  refine jM.of (by decide +kernel) (Nat.le_of_ble_eq_true rfl) ?_
  rintro p e s m below meth c ls ⟨hx, hb, hr, hml, hts, hown, hlk, hal, rfl⟩ hl
  have hl : lv_has ls 5 [(0, .ref d), (1, .int 0), (2, .int (nI n))] := hl
  have hK := va_K.moved hal hK
  have hdl : d < s.heap.size := (Array.getElem?_eq_some_iff.mp hd).1
  have hT : va_T .byte d 16 (fun j => .int (f j)) (jNw s.heap.size) s s.heap := j_T_of hK hd (Nat.not_le.mpr hdl)
  have e0 : nI n - 0 = nI n := pk_sub (a := n) (b := 0) (Nat.zero_le _)
  have e16 : (Int32.ofNat 16) - 0 = nI 16 := pk_sub (a := 16) (b := 0) (Nat.zero_le _)
  refine lv_iload_n hx hb dj_corb_0 rfl (lv_at hl 1 rfl) ?_
  refine lv_iload_n hx hb dj_corb_1 rfl (lv_at hl 2 rfl) ?_
  refine jS (av := [.int 0, .int (nI n)]) (rest := []) (k := 2) (ix := 343) (mj_ck l (u0 := s) (H0 := s.heap) (by omega)) hx hb (hml.trans hl.1.symm) hown hts (hts _ j_w1343) j_w1344 j_w32 j_w1345 (by decide) (by decide +kernel) rfl (by decide) (by decide) ⟨by decide, by decide⟩ (by decide) dj_corb_2 ?_
  rintro v H1 L ⟨rfl, rfl⟩ hL
  refine lv_iload_n hx hb dj_corb_5 rfl (lv_at hl 2 rfl) ?_
  refine lv_iload_n hx hb dj_corb_6 rfl (lv_at hl 1 rfl) ?_
  refine lv_isub hx hb dj_corb_7 ?_
  rw [e0]
  refine lv_istore_n (lv' := [(3, .int (nI n)), (0, .ref d), (1, .int 0), (2, .int (nI n))]) hx hb dj_corb_8 rfl hl (by decide) rfl (fun ls hl => ?_)
  refine lv_iload_n hx hb dj_corb_9 rfl (lv_at hl 0 rfl) ?_
  refine va_newaK hx hb (atype := .byte) (hts _ j_w660) rfl dj_corb_10 rfl (n := nI n) (N := n) (nI_pos (by omega)) (nI_clamp (by omega)) (by show n * 1 ≤ 536870912; omega) (by decide) (by show 0 + 0 + n ≤ 16; omega) rfl fun H2 cA' e1 z1 o1 _ hNm => ?_
  rw [show cA' = cA from Option.some.inj (hNm.symm.trans (hK.2 0 _ rfl).2)] at e1
  show W p l e _ s m _ below meth c H2 ([] ++ L) (0 + 0 + 1) (0 + 0 + n) _ (F0 m 12 ls [.ref s.heap.size])
  have hS : va_S (jNw s.heap.size) s.heap H2 ([] ++ L) := ⟨by omega, fun q q1 _ => o1 q q1, fun q hq => (hL q hq).elim⟩
  have hP : va_P D jcl [(s.heap.size, .inl (cA, n, .inl (fun _ => 0)))] H2 := by
    intro i x hi
    match i, hi with
    | 0, hi => cases hi; exact e1
    | k + 1, hi => simp at hi
  have hD : va_D (jNw s.heap.size) [(s.heap.size, .inl (cA, n, .inl (fun _ => 0)))] := by
    have key : ∀ (i : Nat) (x : Nat × va_E), ([(s.heap.size, .inl (cA, n, .inl (fun _ => 0)))] : va_W)[i]? = some x → i = 0 ∧ x.1 = s.heap.size := by
      intro i x hi
      match i, hi with
      | 0, hi => exact ⟨rfl, by rw [← Option.some.inj hi]⟩
      | k + 1, hi => simp at hi
    exact ⟨fun i j x z hi hj _ => (key i x hi).1.trans (key j z hj).1.symm, fun i x hi => Nat.le_of_eq (key i x hi).2.symm⟩
  refine lv_astore (lv' := [(4, .ref s.heap.size), (3, .int (nI n)), (0, .ref d), (1, .int 0), (2, .int (nI n))]) hx hb dj_corb_12 hl (by decide) rfl (fun ls hl => ?_)
  refine lv_aload_n hx hb dj_corb_14 rfl (lv_at hl 2 rfl) ?_
  refine lv_iload_n hx hb dj_corb_15 rfl (lv_at hl 3 rfl) ?_
  refine lv_aload hx hb dj_corb_16 (lv_at hl 0 rfl) ?_
  refine lv_iconst (v := 0) hx hb dj_corb_18 (by decide) ?_
  refine lv_aload_n hx hb dj_corb_19 rfl (lv_at hl 2 rfl) ?_
  refine va_tlen hx hb hT hS rfl dj_corb_20 ?_
  refine lv_iload_n hx hb dj_corb_21 rfl (lv_at hl 3 rfl) ?_
  refine lv_isub hx hb dj_corb_22 ?_
  rw [e16]
  refine lv_iload_n hx hb dj_corb_23 rfl (lv_at hl 1 rfl) ?_
  refine va_mmin hx hb (hml.trans hl.1.symm) hown (hts _ j_w1225) (hts _ j_w1226) (hts _ j_w31) (hts _ j_w1227) (by decide) (Nat.le_of_ble_eq_true rfl) (by decide) (by show 0 + 0 + n ≤ 16; omega) dj_corb_24 ?_
  rw [if_pos (nI_lt hn (by decide))]
  have e2 : (nI n).toNatClampNeg = n := nI_clamp (by omega)
  refine vk_copyt hx hb (hml.trans hl.1.symm) hown (hts _ j_w1228) (hts _ j_w353) (hts _ j_w352) (hts _ j_w14) hK hP hD hS hT 0 0 rfl rfl (by decide) (by decide) (nI_pos (by omega)) (by rw [e2]; show 0 + n ≤ 16; omega) (by rw [e2]; show 0 + n ≤ n; omega) (fun i hi => ?_) (by decide) (by decide) dj_corb_27 (fun H3 locs3 hP hD hS => ?_)
  · rw [e2] at hi
    have : fits .byte (.int (f (0 + i))) = true := hf _ (by omega)
    exact this
  rw [e2] at hP
  refine lv_aload hx hb dj_corb_30 (lv_at hl 0 rfl) ?_
  refine jret_a hx hb hr (Or.inr ⟨_, rfl⟩) hlk ⟨rfl, ⟨va_cpy f (fun _ => 0) 0 0 n, fun j hj => ?_, ?_⟩, hS.bare⟩ hS.2.2 (by decide) (by show 0 + 0 + n ≤ 16; omega) dj_corb_32
  · rw [pk_cpy_in (Nat.zero_le _) (by omega)]
    congr 1
    omega
  · exact hP 0 _ rfl
theorem mj_cor (hK : va_K D jcl [(cA, .byte)] u0) (hd : H0[d]? = some (arrV cA 16 (fun j => .int (f j)))) (hn : n < 16) (hf : ∀ j, j < n → fits .byte (.int (f j)) = true) : jM l jy_cor jc_cor 3 jr_cor 2 50 1 16 u0 H0 [.ref d, .int 0, .int (nI n)] (jNw H0.size) (jCp cA f n H0) := by
  refine jM.of (by decide +kernel) (Nat.le_of_ble_eq_true rfl) ?_
  rintro p e s m below meth c ls ⟨hx, hb, hr, hml, hts, hown, hlk, hal, rfl⟩ hl
  have hl : lv_has ls 3 [(0, .ref d), (1, .int 0), (2, .int (nI n))] := hl
  have hK := va_K.moved hal hK
  have hT : va_T .byte d 16 (fun j => .int (f j)) jNo s s.heap := j_T_of hK hd id
  refine lv_iload_n hx hb dj_cor_0 rfl (lv_at hl 1 rfl) ?_
  refine lv_if_ne (tgt := 10) hx hb dj_cor_1 (by decide) (fun q => absurd rfl q) (fun _ => ?_)
  refine lv_iload_n hx hb dj_cor_4 rfl (lv_at hl 2 rfl) ?_
  refine lv_aload_n hx hb dj_cor_5 rfl (lv_at hl 0 rfl) ?_
  refine va_tlen hx hb hT va_S.rf rfl dj_cor_6 ?_
  refine lv_icmp_eq (tgt := 17) hx hb dj_cor_7 (by decide) (fun q => absurd ((nI_eq (a := n) (b := 16) (by omega) (by decide)).mp q) (by omega)) (fun _ => ?_)
  refine lv_aload_n hx hb dj_cor_10 rfl (lv_at hl 0 rfl) ?_
  refine lv_iload_n hx hb dj_cor_11 rfl (lv_at hl 1 rfl) ?_
  refine lv_iload_n hx hb dj_cor_12 rfl (lv_at hl 2 rfl) ?_
  refine jS (av := [.ref d, .int 0, .int (nI n)]) (rest := []) (k := 3) (ix := 339) (mj_corb l (u0 := s) (H0 := s.heap) hK hd hn hf) hx hb (hml.trans hl.1.symm) hown hts (hts _ j_w1340) j_w1341 j_w32 j_w1342 (by decide) (by decide +kernel) rfl (by decide) (by decide) (by decide) (by decide) dj_cor_13 ?_
  rintro v H1 L ⟨rfl, h1, h2⟩ hL
  exact jret_a hx hb hr (Or.inr ⟨_, rfl⟩) hlk ⟨rfl, h1, h2⟩ hL (by decide) (by decide) dj_cor_16
theorem mj_blen (hB : jB D cA b d n f u0 H0) : jM l jy_blen jc_blen 1 jr_blen 1 20 0 0 u0 H0 [.ref b] jNo (fun v H => v = some (.int (nI n)) ∧ H = H0) := by
  refine jM.of (by decide +kernel) (Nat.le_of_ble_eq_true rfl) ?_
  rintro p e s m below meth c ls ⟨hx, hb, hr, hml, hts, hown, hlk, hal, rfl⟩ hl
  have hl : lv_has ls 1 [(0, .ref b)] := hl
  have hB := hB.moved hal
  obtain ⟨cb, g5, g6, -, kC, g8⟩ := hB.cell
  refine lv_aload_n hx hb dj_blen_0 rfl (lv_at hl 0 rfl) ?_
  refine jSU (al := []) (rest := []) (k := 0) (ix := 343) (mj_alen l (u0 := s) (H0 := s.heap) hB) hx hb (hml.trans hl.1.symm) hown hts (hts _ j_w1334) j_w1329 j_w28 j_w1335 j_w1183 j_w1330 (by decide) (by decide +kernel) rfl g5 g6 g8 (by decide) (by decide) ⟨Nat.le_refl _, Nat.le_refl _⟩ (by decide) dj_blen_1 ?_
  rintro v H1 L ⟨rfl, rfl⟩ hL
  exact jret_i hx hb hr rfl hlk ⟨rfl, rfl⟩ hL (Nat.le_refl _) (Nat.le_refl _) dj_blen_4
/-- the String's cell is filled; x: her bytes -/
abbrev jMk (D : va_G) (cA : ClassId) (f : Nat → Int32) (n a : Nat) (H0 H1 : Heap) : Prop := ∃ (x : Nat) (f' : Nat → Int32), (H0.size ≤ x ∧ a ≠ x) ∧ (∀ j, j < n → f' j = f j) ∧ va_P D jcl [(a, .inr (1, [.ref x, .int 0, .int 0, .int 0])), (x, .inl (cA, n, .inl f'))] H1 ∧ va_S (fun q => q = a ∨ H0.size ≤ q) H0 H1 []
theorem mj_sia (hB : jB D cA b d n f u0 H0) (ha : va_P D jcl [(a, .inr (1, [.null, .int 0, .int 0, .int 0]))] H0) (hab : a ≠ b) (had : a ≠ d) (hn : n < 16) (hf : ∀ j, j < n → fits .byte (.int (f j)) = true) : jM l jy_sia jc_sia 5 jr_sia 3 75 1 16 u0 H0 [.ref a, .ref b, .null] (fun q => q = a ∨ H0.size ≤ q) (fun v H1 => v = none ∧ jMk D cA f n a H0 H1) := by
  refine jM.ofI (by decide +kernel) (Nat.le_of_ble_eq_true rfl) ?_
  rintro p e s m below meth c ls ⟨hx, hb, hr, hml, hts, hown, hlk, hal, rfl⟩ hnm hl
  have hl : lv_has ls 5 [(0, .ref a), (1, .ref b), (2, .null)] := hl
  have hB := hB.moved hal
  obtain ⟨hK, hPb, hbd, hZ⟩ := id hB
  obtain ⟨cb, g5, g6, g7, -⟩ := hB.cell
  have hd : s.heap[d]? = some (arrV cA 16 (fun j => .int (f j))) := hPb 1 _ rfl
  have hal' : a < s.heap.size := (ha 0 _ rfl).lt
  refine lv_aload_n hx hb dj_sia_0 rfl (lv_at hl 0 rfl) ?_
  refine W.objInit hx hb hown (hts _ j_w1322) (hts _ j_w40) (hts _ j_w41) rfl (hml.trans hl.1.symm).symm rfl dj_sia_1 (by decide) (Nat.le_of_ble_eq_true rfl) ?_
  show W p l e _ s m _ below meth c s.heap [] 0 0 _ (F0 m 4 ls [])
  refine lv_aload_n hx hb dj_sia_4 rfl (lv_at hl 1 rfl) ?_
  refine jU (C := "java/lang/StringBuilder") (al := []) (rest := []) (k := 0) (ix := 552) (mj_gva l (u0 := s) (H0 := s.heap) hB) hx hb (hml.trans hl.1.symm) hown hts (hts _ j_w1323) j_w1324 j_w28 j_w1327 (hts _ j_w1326) j_w1325 (by decide) (by decide +kernel) rfl g5 g6 g7 (by decide) (by decide) (by decide) (by decide) dj_sia_5 ?_
  rintro v H1 L ⟨rfl, rfl⟩ hL
  refine lv_astore_n (lv' := [(3, .ref d), (0, .ref a), (1, .ref b), (2, .null)]) hx hb dj_sia_8 rfl hl (by decide) rfl (fun ls hl => ?_)
  refine lv_aload_n hx hb dj_sia_9 rfl (lv_at hl 2 rfl) ?_
  refine jX (C := "java/lang/StringBuilder") (x := jy_alen) (al := []) (rest := []) (k := 0) (ix := 549) (mj_blen l (u0 := s) (H0 := s.heap) hB) hx hb (hml.trans hl.1.symm) hown hts (hts _ j_w1328) j_w1332 j_w29 j_w1333 j_w1331 j_w1330 j_w1329 j_w1335 (by decide) (by decide +kernel) rfl g5 g6 g7 (by decide) (by decide) (by decide) (by decide) dj_sia_10 ?_
  rintro v H1 L2 ⟨rfl, rfl⟩ hL2
  refine lv_istore (lv' := [(4, .int (nI n)), (3, .ref d), (0, .ref a), (1, .ref b), (2, .null)]) hx hb dj_sia_13 hl (by decide) rfl (fun ls hl => ?_)
  refine lv_aload_n hx hb dj_sia_15 rfl (lv_at hl 3 rfl) ?_
  refine jU (C := "java/lang/StringBuilder") (al := []) (rest := []) (k := 0) (ix := 1047) (mj_alat l (u0 := s) (H0 := s.heap) hB) hx hb (hml.trans hl.1.symm) hown hts (hts _ j_w1336) j_w1230 j_w28 j_w1233 (hts _ j_w1232) j_w1231 (by decide) (by decide +kernel) rfl g5 g6 g7 (by decide) (by decide) (by decide) (by decide) dj_sia_16 ?_
  rintro v H1 L3 ⟨rfl, rfl⟩ hL3
  have hS : va_S (fun q => q = a ∨ s.heap.size ≤ q) s.heap s.heap ([] ++ L ++ L2 ++ L3) := ⟨Nat.le_refl _, fun _ _ _ => rfl, fun q hq => (List.mem_append.mp hq).elim (fun h => (List.mem_append.mp h).elim (fun h => (hL q h).elim) (fun h => (hL2 q h).elim)) (fun h => (hL3 q h).elim)⟩
  have hD : ∀ (A : Nat → Prop) (fs : List Value), A a → va_D A [(a, .inr (1, fs))] := by
    intro A fs hA
    have key : ∀ (i : Nat) (x : Nat × va_E), ([(a, .inr (1, fs))] : va_W)[i]? = some x → i = 0 ∧ x.1 = a := by
      intro i x hi
      match i, hi with
      | 0, hi => exact ⟨rfl, by rw [← Option.some.inj hi]⟩
      | k + 1, hi => simp at hi
    exact ⟨fun i j x z hi hj _ => (key i x hi).1.trans (key j z hj).1.symm, fun i x hi => by rw [(key i x hi).2]; exact hA⟩
  refine lv_if_eq (tgt := 41) hx hb dj_sia_19 (by decide) (fun q => absurd q (by decide)) (fun _ => ?_)
  refine lv_aload_n hx hb dj_sia_22 rfl (lv_at hl 2 rfl) ?_
  refine lv_iconst (v := 0) hx hb dj_sia_23 (by decide) ?_
  refine va_putF (C := RJ0) (T := TJ0) (N := 4) (ci := 1) hx hb hts j_tw tyJ0 tyJ0_ok nmJ0 hown hK ha (hD _ _ (Or.inl rfl)) hS 0 rfl rfl 1 (by decide) (hts _ j_w1368) (fun _ h => h) rfl hnm rfl (ty := .byte) (v := .int 0) (by decide +kernel) rfl rfl (by decide) dj_sia_24 (fun H2 locs2 hP2 hD2 hS2 => ?_)
  have hP2 : va_P D jcl [(a, .inr (1, [.null, .int 0, .int 0, .int 0]))] H2 := hP2
  have hd2 : H2[d]? = some (arrV cA 16 (fun j => .int (f j))) := by
    have hdl : d < s.heap.size := (Array.getElem?_eq_some_iff.mp hd).1
    rw [hS2.2.1 d hdl (fun h => h.elim (fun h => had h.symm) (fun h => absurd h (Nat.not_le.mpr hdl)))]
    exact hd
  refine lv_aload_n hx hb dj_sia_27 rfl (lv_at hl 2 rfl) ?_
  refine lv_aload_n hx hb dj_sia_28 rfl (lv_at hl 1 rfl) ?_
  refine lv_iconst (v := 0) hx hb dj_sia_29 (by decide) ?_
  refine lv_iload hx hb dj_sia_30 (lv_at hl 0 rfl) ?_
  refine jS (av := [.ref d, .int 0, .int (nI n)]) (rest := [.ref a]) (k := 3) (ix := 54) (mj_cor l (u0 := s) (H0 := H2) hK hd2 hn hf) hx hb (hml.trans hl.1.symm) hown hts (hts _ j_w1337) j_w1338 j_w32 j_w1339 (by decide) (by decide +kernel) rfl (by decide) (by decide) (by decide) (Nat.le_of_ble_eq_true rfl) dj_sia_32 ?_
  rintro v H3 L4 ⟨rfl, ⟨f', hf', h4⟩, h5⟩ hL4
  have hz2 : s.heap.size ≤ H2.size := hS2.1
  have hal2 : a < H2.size := Nat.lt_of_lt_of_le hal' hz2
  have hP3 : va_P D jcl [(a, .inr (1, [.null, .int 0, .int 0, .int 0])), (H2.size, .inl (cA, n, .inl f'))] H3 := by
    intro i x hi
    match i, hi with
    | 0, hi =>
      have h0 := hP2 0 _ rfl
      cases hi
      exact h0.kept (h5.2.1 a hal2 (Nat.not_le.mpr hal2))
    | 1, hi => cases hi; exact h4
    | k + 2, hi => simp at hi
  have hS3 : va_S (fun q => q = a ∨ s.heap.size ≤ q) s.heap H3 (locs2 ++ L4) := by
    refine va_S.locs ?_ hS2.2.2 (fun q hq => Or.inr (Nat.le_trans hz2 (hL4 q hq)))
    exact ⟨Nat.le_trans hS2.1 h5.1, fun q q1 q2 => (h5.2.1 q (Nat.lt_of_lt_of_le q1 hz2) (Nat.not_le.mpr (Nat.lt_of_lt_of_le q1 hz2))).trans (hS2.2.1 q q1 q2), fun q hq => absurd hq List.not_mem_nil⟩
  refine va_putF (C := RJ0) (T := TJ0) (N := 4) (ci := 1) hx hb hts j_tw tyJ0 tyJ0_ok nmJ0 hown hK hP3 (j_D2 (Nat.ne_of_lt hal2) (Or.inl rfl) (Or.inr hz2)) hS3 0 rfl rfl 0 (by decide) (hts _ j_w1367) (fun _ h => h) rfl hnm rfl (ty := .array .byte) (v := .ref H2.size) (by decide +kernel) rfl rfl (by decide) dj_sia_35 (fun H4 locs4 hP4 hD4 hS4 => ?_)
  have hP4 : va_P D jcl [(a, .inr (1, [.ref H2.size, .int 0, .int 0, .int 0])), (H2.size, .inl (cA, n, .inl f'))] H4 := hP4
  refine lv_goto (tgt := 97) hx hb dj_sia_38 (by decide) ?_
  exact jret_v hx hb hr hlk ⟨rfl, H2.size, f', ⟨hz2, Nat.ne_of_lt hal2⟩, hf', hP4, hS4.bare⟩ hS4.2.2 (by decide) (by decide) dj_sia_97
theorem mj_sib (hB : jB D cA b d n f u0 H0) (ha : va_P D jcl [(a, .inr (1, [.null, .int 0, .int 0, .int 0]))] H0) (hab : a ≠ b) (had : a ≠ d) (hn : n < 16) (hf : ∀ j, j < n → fits .byte (.int (f j)) = true) : jM l jy_sib jc_sib 2 jr_sib 4 99 1 16 u0 H0 [.ref a, .ref b] (fun q => q = a ∨ H0.size ≤ q) (fun v H1 => v = none ∧ jMk D cA f n a H0 H1) := by
  refine jM.of (by decide +kernel) (Nat.le_of_ble_eq_true rfl) ?_
  rintro p e s m below meth c ls ⟨hx, hb, hr, hml, hts, hown, hlk, hal, rfl⟩ hl
  have hl : lv_has ls 2 [(0, .ref a), (1, .ref b)] := hl
  refine lv_aload_n hx hb dj_sib_0 rfl (lv_at hl 0 rfl) ?_
  refine lv_aload_n hx hb dj_sib_1 rfl (lv_at hl 1 rfl) ?_
  refine lv_null hx hb dj_sib_2 ?_
  refine jI (al := [.ref b, .null]) (rest := []) (k := 2) (ix := 489) (mj_sia l (u0 := s) (H0 := s.heap) (hB.moved hal) ha hab had hn hf) hx hb (hml.trans hl.1.symm) hown hts rfl (hts _ j_w1319) j_w1320 j_w20 j_w1321 (by decide) (by decide +kernel) rfl (by decide) (by decide) (by decide) (by decide) dj_sib_3 ?_
  rintro v H1 L ⟨rfl, h1⟩ hL
  exact jret_v hx hb hr hlk ⟨rfl, h1⟩ hL (by decide) (by decide) dj_sib_6
theorem mj_bts (hB : jB D cA b d n f u0 H0) (hn : n < 16) (hf : ∀ j, j < n → fits .byte (.int (f j)) = true) : jM l jy_bts jc_bts 1 jr_bts 5 123 2 20 u0 H0 [.ref b] (jNw H0.size) (fun v H1 => ∃ (a x : Nat) (f' : Nat → Int32), v = some (.ref a) ∧ (H0.size ≤ a ∧ H0.size ≤ x ∧ a ≠ x) ∧ (∀ j, j < n → f' j = f j) ∧ va_P D jcl [(a, .inr (1, [.ref x, .int 0, .int 0, .int 0])), (x, .inl (cA, n, .inl f'))] H1 ∧ va_S (jNw H0.size) H0 H1 []) := by
  refine jM.of (by decide +kernel) (Nat.le_of_ble_eq_true rfl) ?_
  rintro p e s m below meth c ls ⟨hx, hb, hr, hml, hts, hown, hlk, hal, rfl⟩ hl
  have hl : lv_has ls 1 [(0, .ref b)] := hl
  have hB := hB.moved hal
  obtain ⟨hK, hPb, hbd, hZ⟩ := id hB
  have hbl : b < s.heap.size := (hPb 0 _ rfl).lt
  have hdl : d < s.heap.size := (hPb 1 _ rfl).lt
  refine va_new (C := RJ0) (T := TJ0) (N := 4) (ci := 1) (ws := []) (A := jNw s.heap.size) (H0 := s.heap) (fs := [.null, .int 0, .int 0, .int 0]) hx hb hts j_tw tyJ0 tyJ0_ok hown (hts _ j_w1315) (hts _ j_w659) (hts _ j_w20) hK (fun i x hi => by simp at hi) ⟨fun i j x z hi => by simp at hi, fun i x hi => by simp at hi⟩ va_S.rf (fun _ h => h) rfl (fun j hj => ?_) (by decide) (by decide) dj_bts_0 (fun a H1 hP hD hS => ?_)
  · match j, hj with
    | 0, _ => rfl
    | 1, _ => rfl
    | 2, _ => rfl
    | 3, _ => rfl
  have hP : va_P D jcl [(a, .inr (1, [.null, .int 0, .int 0, .int 0]))] H1 := hP
  have haz : s.heap.size ≤ a := hD.2 0 (a, .inr (1, [.null, .int 0, .int 0, .int 0])) rfl
  have ha1 : a < H1.size := (hP 0 _ rfl).lt
  have hB1 : jB D cA b d n f s H1 := by
    refine ⟨hK, fun i x hi => ?_, hbd, ?_⟩
    · match i, hi with
      | 0, hi =>
        have h0 := hPb 0 _ rfl
        cases hi
        exact h0.kept (hS.2.1 b hbl (Nat.not_le.mpr hbl))
      | 1, hi =>
        have h0 := hPb 1 _ rfl
        cases hi
        exact h0.kept (hS.2.1 d hdl (Nat.not_le.mpr hdl))
      | k + 2, hi => simp at hi
    · exact hZ.kept fun q q1 _ => hS.2.1 q q1 (Nat.not_le.mpr q1)
  refine lv_dup hx hb dj_bts_3 rfl ?_
  refine lv_aload_n hx hb dj_bts_4 rfl (lv_at hl 0 rfl) ?_
  refine jI (al := [.ref b]) (rest := [.ref a]) (k := 1) (ix := 137) (mj_sib l (u0 := s) (H0 := H1) hB1 hP (by omega) (by omega) hn hf) hx hb (hml.trans hl.1.symm) hown hts rfl (hts _ j_w1316) j_w1317 j_w20 j_w1318 (by decide) (by decide +kernel) rfl (by decide) (by decide) (by decide) (Nat.le_of_ble_eq_true rfl) dj_bts_5 ?_
  rintro v H2 L ⟨rfl, x, f', ⟨h1, h1'⟩, h2, h3, h4⟩ hL
  have hz := hS.1
  refine jret_a hx hb hr (Or.inl ⟨_, rfl⟩) hlk ⟨a, x, f', rfl, ⟨haz, Nat.le_trans hz h1, h1'⟩, h2, h3, ⟨Nat.le_trans hz h4.1, fun q q1 q2 => ?_, fun q hq => absurd hq List.not_mem_nil⟩⟩ (fun q hq => ?_) (by decide) (by decide) dj_bts_8
  · have q3 : q < s.heap.size := q1
    rw [h4.2.1 q (Nat.lt_of_lt_of_le q1 hz) (fun h => h.elim (fun h => by omega) (fun h => by omega))]
    exact hS.2.1 q q1 q2
  · rcases hL q hq with h | h
    · show s.heap.size ≤ q.base
      rw [h]; exact haz
    · exact Nat.le_trans hz h
end JTS
end
section
/-! A NUMBER MODULO ANOTHER -/
theorem rem_ii {x : Int32} {n : Nat} (h0 : 0 < n) (hn : n < 1000) : (x - x / nI n * nI n).toInt = x.toInt.tmod n := by
  have e : (nI n).toInt = (n : Int) := nI_toInt (by omega)
  rw [Int32.toInt_sub, Int32.toInt_mul, Int32.toInt_div, e]
  have lo := Int32.le_toInt x
  have hi := Int32.toInt_lt x
  have h2 : (x.toInt.tdiv n).bmod (2 ^ 32) = x.toInt.tdiv n := by
    have ha : (x.toInt.tdiv n).natAbs ≤ x.toInt.natAbs := by
      rw [Int.natAbs_tdiv]
      exact Nat.div_le_self _ _
    by_cases hm : x.toInt.tdiv n = 2147483648
    · have h0 : 0 ≤ x.toInt.tdiv n := by omega
      have hx : ¬ 0 ≤ x.toInt := by omega
      have := Int.neg_tdiv (a := x.toInt) (b := (n : Int))
      have h5 := Int.tdiv_nonneg (a := -x.toInt) (b := (n : Int)) (by omega) (by omega)
      omega
    · exact Int.bmod_eq_of_le (by omega) (by omega)
  have h3 : x.toInt - x.toInt.tdiv n * n = x.toInt.tmod n := by
    rw [Int.tmod_def]; rw [Int.mul_comm]
  have h4 : -(n : Int) < x.toInt.tmod n ∧ x.toInt.tmod n < n := by
    refine ⟨?_, Int.tmod_lt_of_pos _ (by omega)⟩
    have := Int.lt_tmod_of_pos x.toInt (b := (n : Int)) (by omega)
    omega
  rw [Int.sub_bmod_bmod, h2, h3]
  exact Int.bmod_eq_of_le (by omega) (by omega)
theorem rem_b {x : Int32} {n : Nat} (h0 : 0 < n) (hn : n < 1000) : ∃ k, k < n ∧ (if x - x / nI n * nI n < 0 then x - x / nI n * nI n + nI n else x - x / nI n * nI n) = nI k := by
  have e := rem_ii (x := x) h0 hn
  have h4 : -(n : Int) < x.toInt.tmod n ∧ x.toInt.tmod n < n := by
    refine ⟨?_, Int.tmod_lt_of_pos _ (by omega)⟩
    have := Int.lt_tmod_of_pos x.toInt (b := (n : Int)) (by omega)
    omega
  generalize x - x / nI n * nI n = r at e ⊢
  by_cases hr : r < 0
  · rw [if_pos hr]
    have hr2 : r.toInt < 0 := by
      have := Int32.lt_iff_toInt_lt.mp hr
      simpa using this
    have h5 : (r + nI n).toInt = r.toInt + n := by
      rw [Int32.toInt_add, nI_toInt (by omega)]
      exact Int.bmod_eq_of_le (by omega) (by omega)
    refine ⟨(r.toInt + n).toNat, by omega, ?_⟩
    apply Int32.toInt_inj.mp
    rw [h5, nI_toInt (by omega)]
    omega
  · rw [if_neg hr]
    have hr2 : 0 ≤ r.toInt := by
      have := Int32.not_lt.mp hr
      simpa using Int32.le_iff_toInt_le.mp this
    refine ⟨r.toInt.toNat, by omega, ?_⟩
    apply Int32.toInt_inj.mp
    rw [nI_toInt (by omega)]
    omega
theorem mo_lt {x : Int32} {n : Nat} (h0 : 0 < n) (hn : n < 1000) : (am_mo x (nI n)).toNatClampNeg < n := by
  obtain ⟨k, hk, e⟩ := rem_b (x := x) h0 hn
  unfold am_mo
  rw [e, nI_clamp (by omega)]
  exact hk
end
section
/-! WHAT GOES BESIDE: bits of floats, a String's length, a String's letter -/
theorem j_w661 : Jvm.Cond.laysFinal "java/lang/String" "java/lang/String" "value" "[B" ∈ j_W := j_at_in (i := 670) (by decide +kernel)
theorem j_w663 : Jvm.Cond.laysFinal "java/lang/String" "java/lang/String" "coder" "B" ∈ j_W := j_at_in (i := 672) (by decide +kernel)
theorem j_w1067 : Jvm.Cond.static ({ cls := "java/lang/Double", name := "doubleToLongBits", desc := "(D)J" } : Jvm.MethodName) ∈ j_W := j_at_in (i := 1076) (by decide +kernel)
theorem j_w1068 : Jvm.Cond.code ({ cls := "java/lang/Double", name := "doubleToLongBits", desc := "(D)J" } : Jvm.MethodName) prog_20_method_23_code (2 : Nat) (Option.some Jvm.ClassFile.FieldType.long) ∈ j_W := j_at_in (i := 1077) (by decide +kernel)
theorem j_w1085 : Jvm.Cond.static ({ cls := "java/lang/Float", name := "floatToIntBits", desc := "(F)I" } : Jvm.MethodName) ∈ j_W := j_at_in (i := 1094) (by decide +kernel)
theorem j_w1086 : Jvm.Cond.code ({ cls := "java/lang/Float", name := "floatToIntBits", desc := "(F)I" } : Jvm.MethodName) prog_22_method_24_code (1 : Nat) (Option.some Jvm.ClassFile.FieldType.int) ∈ j_W := j_at_in (i := 1095) (by decide +kernel)
theorem j_w1005 : Jvm.Cond.instanceMethod ({ cls := "java/lang/String", name := "charAt", desc := "(I)C" } : Jvm.MethodName) ∈ j_W := j_at_in (i := 1014) (by decide +kernel)
theorem j_w1007 : Jvm.Cond.code ({ cls := "java/lang/String", name := "charAt", desc := "(I)C" } : Jvm.MethodName) prog_30_method_56_code (2 : Nat) (Option.some Jvm.ClassFile.FieldType.char) ∈ j_W := j_at_in (i := 1016) (by decide +kernel)
theorem j_w1006 : Jvm.Cond.selects "java/lang/String" ({ cls := "java/lang/String", name := "charAt", desc := "(I)C" } : Jvm.MethodName) ({ cls := "java/lang/String", name := "charAt", desc := "(I)C" } : Jvm.MethodName) ∈ j_W := j_at_in (i := 1015) (by decide +kernel)
theorem j_S_no {A0 : Nat → Prop} {H0 H : Heap} {locs L : List Loc} (hS : va_S A0 H0 H locs) (hL : ∀ q ∈ L, jNo q.base) : va_S A0 H0 H (locs ++ L) :=
  ⟨hS.1, hS.2.1, fun q hq => (List.mem_append.mp hq).elim (hS.2.2 q) (fun h => (hL q h).elim)⟩
section JSide
variable {p : Program} {l : Launch} {e : Env} {R : Room} {s : State} {m : MethodId} {args : Array Value} {below : List Frame} {meth : Method} {c : Code} {Q : State → Prop} {G : am_Γ} {z : Nat} {X0 : am_X} {pc : Nat} {ls : am_S} {st : List am_V} {M : am_M} {X : am_X} {H : Heap}
theorem j_ml {o ix k y : Nat} (hm : am_ml o ix = some (k, y)) : ∃ i, am_mlw (o, ix, k, y) i = true := am_al2_in am_ml_ok _ (am_look_in hm)
theorem j_hts (hts : ∀ w ∈ am_W, w.before args s = true) (hl : am_Sl s) : ∀ w ∈ j_W, w.before args s = true := fun w h => (List.mem_append.mp h).elim (fun q => hts w (j_W_am q)) (fun q => va_tabs (j_X_tabs w q) rfl (hl w q))
/-- a String of the relation, as the JDK's contracts want her -/
theorem j_of_so {a b : Nat} {t : List Nat} {A : Nat → Prop} (hts : ∀ w ∈ j_W, w.before args s = true) (hK : va_K G.2.2.1 am_cl (am_tys G) s) (hZ : va_Z "java/lang/String" "COMPACT_STRINGS" "Z" (.int 1) A s H) (h : am_so G a b t H) (ha : ¬ A a) (hb : ¬ A b) : jStr a b t.length (fun j => nI (t.getD j 0)) A s H := by
  obtain ⟨sC, SA, ⟨q1, q2, q3, q4, q5, q6⟩, r1, r2, r3, r4, r5, r6⟩ := h
  obtain ⟨p1, p2, -⟩ := hK.1 9 _ (am_cl_at 9 (by decide))
  obtain ⟨cf3, k3, i3, f3, y1, y2⟩ := p1 0 (by decide)
  obtain ⟨cf4, k4, i4, f4, z1, z2⟩ := p1 1 (by decide)
  obtain ⟨-, -, cV, kV, iV, fV, -, -, g3, g4, -⟩ := Cond.laysFinal_spec (hts _ j_w661)
  obtain ⟨-, -, cW, kW, iW, fW, -, -, e3, e4, -⟩ := Cond.laysFinal_spec (hts _ j_w663)
  cases y1.symm.trans g3
  cases z1.symm.trans e3
  obtain ⟨-, k0, hk0, cm0, hkk0⟩ := (hK.2 3 _ rfl).1 0 (fun _ => .int 0)
  refine ⟨hZ, ⟨_, _, _, _, sC, g3, g4, q1, q3, ?_, ha⟩, ⟨_, _, _, _, sC, e3, e4, q1, q3, ?_, ha⟩, ⟨SA, r1, ⟨fun k hk => ?_, k0, ?_, cm0, hkk0⟩, r3, Nat.le_of_eq r5.symm, by rw [r5], r6, hb⟩, sC, q1, q4, ?_, ha⟩
  · first | (rw [y2]; exact q5) | (rw [← y2]; exact q5)
  · first | (rw [z2]; exact q6) | (rw [← z2]; exact q6)
  · rw [hk] at r4; cases r4
  · rw [r2]; exact hk0
  · rw [q2]; exact p2
theorem am_s_dbl {d ix y : Nat} {q : am_N} (C : am_Cx p l s m args meth c G z) (hnc : am_Nc G s) (hm : am_ml (am_own z) ix = some (8, y)) (dg : decode (am_by z) pc = .ok (.invokestatic ix, 3)) (hR : 27 ≤ R.frames ∧ 751 ≤ R.locals) (hle : am_le X0 X) (h : am_inv (am_ev d) z 8 y pc ls st M X (fun a b c d e => some (.inl (a, b, c, d, e))) (fun r => some (.inr r)) = some q) (hrm : (am_nx q).2.2.1 - X0.2.2.1 ≤ R.cells ∧ (am_nx q).2.2.2.1 - X0.2.2.2.1 ≤ R.slots) (hq : ∀ w, q = .inl w → am_Sm p l e R s m args below meth c Q G z X0 w) : am_Sm p l e R s m args below meth c Q G z X0 (pc, ls, st, M, X) := by
  obtain ⟨i, hi⟩ := j_ml hm
  simp only [am_mlw, Bool.and_eq_true] at hi
  obtain ⟨hx, hb, hml, hown, hts, -⟩ := C
  simp only [am_inv] at h
  intro H locs lsc hH hS hl
  obtain ⟨x, rest, rfl, h1⟩ := am_popD_i h
  obtain ⟨h4, h2⟩ := am_sm_i h1
  obtain ⟨hn, h3⟩ := am_if_i h2
  cases h3
  refine jS (av := [.double x]) (rest := rest.map (am_tv G)) (k := 1) (ix := ix) (own := am_cR (am_own z)) (mj_dbl l (u0 := s) (H0 := H) hn) hx hb (by rw [hml]; exact hl.1.1.symm) hown (j_hts hts hnc.2.2.2) (hts _ (am_at_in hi.2)) j_w1067 j_w26 j_w1068 (by decide) (by decide +kernel) rfl (by omega) (by omega) ⟨hrm.1, hrm.2⟩ (am_cat rest h4) dg ?_
  rintro v H1 L ⟨rfl, rfl⟩ hL
  exact hq _ rfl H1 (locs ++ L) lsc hH (j_S_no hS hL) hl
theorem am_s_flt {d ix y : Nat} {q : am_N} (C : am_Cx p l s m args meth c G z) (hnc : am_Nc G s) (hm : am_ml (am_own z) ix = some (9, y)) (dg : decode (am_by z) pc = .ok (.invokestatic ix, 3)) (hR : 27 ≤ R.frames ∧ 751 ≤ R.locals) (hle : am_le X0 X) (h : am_inv (am_ev d) z 9 y pc ls st M X (fun a b c d e => some (.inl (a, b, c, d, e))) (fun r => some (.inr r)) = some q) (hrm : (am_nx q).2.2.1 - X0.2.2.1 ≤ R.cells ∧ (am_nx q).2.2.2.1 - X0.2.2.2.1 ≤ R.slots) (hq : ∀ w, q = .inl w → am_Sm p l e R s m args below meth c Q G z X0 w) : am_Sm p l e R s m args below meth c Q G z X0 (pc, ls, st, M, X) := by
  obtain ⟨i, hi⟩ := j_ml hm
  simp only [am_mlw, Bool.and_eq_true] at hi
  obtain ⟨hx, hb, hml, hown, hts, -⟩ := C
  simp only [am_inv] at h
  intro H locs lsc hH hS hl
  obtain ⟨x, rest, rfl, h1⟩ := am_popF_i h
  obtain ⟨h4, h2⟩ := am_sm_i h1
  obtain ⟨hn, h3⟩ := am_if_i h2
  cases h3
  refine jS (av := [.float x]) (rest := rest.map (am_tv G)) (k := 1) (ix := ix) (own := am_cR (am_own z)) (mj_flt l (u0 := s) (H0 := H) hn) hx hb (by rw [hml]; exact hl.1.1.symm) hown (j_hts hts hnc.2.2.2) (hts _ (am_at_in hi.2)) j_w1085 j_w27 j_w1086 (by decide) (by decide +kernel) rfl (by omega) (by omega) ⟨hrm.1, hrm.2⟩ (am_cat rest h4) dg ?_
  rintro v H1 L ⟨rfl, rfl⟩ hL
  exact hq _ rfl H1 (locs ++ L) lsc hH (j_S_no hS hL) hl
/-- the String at hand -/
theorem j_hand {t : List Nat} (C : am_Cx p l s m args meth c G z) (hnc : am_Nc G s) (hH : am_HR G M X H) {locs : List Loc} (hS : va_S (am_A G) s.heap H locs) (hT : X.2.2.2.2.2 = some t) : jStr (am_sa G) (am_sb0 G) t.length (fun j => nI (t.getD j 0)) jNo s H ∧ jFm jNo s H ∧ (∀ c ∈ t, c < 128) ∧ t.length ≤ 60 := by
  obtain ⟨hx, hb, hml, hown, hts, hK, -⟩ := C
  obtain ⟨-, h1, h2, h3⟩ := hH.2.2.2.2.2 t hT
  have hJ := hnc.2.2.1.kept hS.2.1
  exact ⟨j_of_so (j_hts hts hnc.2.2.2) hK (hJ.1.narrow (B := jNo) fun _ q => q.elim) h1 id id, hJ.2.2.narrow (B := jNo) fun _ q => q.elim, h2, h3⟩
theorem am_s_sln {d ix y : Nat} {q : am_N} (C : am_Cx p l s m args meth c G z) (hnc : am_Nc G s) (hm : am_ml (am_own z) ix = some (10, y)) (dg : decode (am_by z) pc = .ok (.invokevirtual ix, 3)) (hR : 27 ≤ R.frames ∧ 751 ≤ R.locals) (hle : am_le X0 X) (h : am_inv (am_ev d) z 10 y pc ls st M X (fun a b c d e => some (.inl (a, b, c, d, e))) (fun r => some (.inr r)) = some q) (hrm : (am_nx q).2.2.1 - X0.2.2.1 ≤ R.cells ∧ (am_nx q).2.2.2.1 - X0.2.2.2.1 ≤ R.slots) (hq : ∀ w, q = .inl w → am_Sm p l e R s m args below meth c Q G z X0 w) : am_Sm p l e R s m args below meth c Q G z X0 (pc, ls, st, M, X) := by
  obtain ⟨i, hi⟩ := j_ml hm
  simp only [am_mlw, Bool.and_eq_true] at hi
  have C' := C
  obtain ⟨hx, hb, hml, hown, hts, -⟩ := C
  simp only [am_inv] at h
  intro H locs lsc hH hS hl
  obtain ⟨l0, rest, rfl, h1⟩ := am_popP_i h
  obtain ⟨h4, h2⟩ := am_sm_i h1
  obtain ⟨rfl, h3⟩ := am_if_i h2
  rcases am_o2_i h3 with ⟨t, hT, h5⟩ | ⟨-, h5⟩
  · cases h5
    obtain ⟨hs, -⟩ := j_hand C' hnc hH hS hT
    obtain ⟨-, -, -, -, cell, g1, g2, g3, -⟩ := id hs
    refine jV (C := "java/lang/String") (al := []) (rest := rest.map (am_tv G)) (k := 0) (ix := ix) (own := am_cR (am_own z)) (mj_slen l (u0 := s) (H0 := H) hs) hx hb (by rw [hml]; exact hl.1.1.symm) hown (j_hts hts hnc.2.2.2) (hts _ (am_at_in hi.2)) j_w988 j_w20 j_w990 j_w989 (by decide) (by decide +kernel) rfl g1 g2 g3 (by omega) (by omega) ⟨hrm.1, hrm.2⟩ (am_cat rest h4) dg ?_
    rintro v H1 L ⟨rfl, rfl⟩ hL
    exact hq _ rfl H1 (locs ++ L) lsc hH (j_S_no hS hL) hl
  · cases h5
theorem am_s_sch {d ix y : Nat} {q : am_N} (C : am_Cx p l s m args meth c G z) (hnc : am_Nc G s) (hm : am_ml (am_own z) ix = some (11, y)) (dg : decode (am_by z) pc = .ok (.invokevirtual ix, 3)) (hR : 27 ≤ R.frames ∧ 751 ≤ R.locals) (hle : am_le X0 X) (h : am_inv (am_ev d) z 11 y pc ls st M X (fun a b c d e => some (.inl (a, b, c, d, e))) (fun r => some (.inr r)) = some q) (hrm : (am_nx q).2.2.1 - X0.2.2.1 ≤ R.cells ∧ (am_nx q).2.2.2.1 - X0.2.2.2.1 ≤ R.slots) (hq : ∀ w, q = .inl w → am_Sm p l e R s m args below meth c Q G z X0 w) : am_Sm p l e R s m args below meth c Q G z X0 (pc, ls, st, M, X) := by
  obtain ⟨i, hi⟩ := j_ml hm
  simp only [am_mlw, Bool.and_eq_true] at hi
  have C' := C
  obtain ⟨hx, hb, hml, hown, hts, -⟩ := C
  simp only [am_inv] at h
  intro H locs lsc hH hS hl
  obtain ⟨x, st1, rfl, h0⟩ := am_popI_i h
  obtain ⟨l0, rest, rfl, h1⟩ := am_popP_i h0
  obtain ⟨h4, h2⟩ := am_sm_i h1
  obtain ⟨rfl, h3⟩ := am_if_i h2
  rcases am_o2_i h3 with ⟨t, hT, h5⟩ | ⟨-, h5⟩
  · obtain ⟨hin, h6⟩ := am_if_i h5
    cases h6
    obtain ⟨hs, hF, h128, h60⟩ := j_hand C' hnc hH hS hT
    obtain ⟨-, -, -, -, cell, g1, g2, g3, -⟩ := id hs
    have hlt : x.toNatClampNeg < t.length := Nat.not_le.mp fun q => hin (Or.inr q)
    obtain ⟨n, hn, rfl⟩ := nI_of (fun q => hin (Or.inl q))
    rw [nI_clamp hn] at hlt
    have hc : t.getD n 0 < 128 := by
      rw [List.getD_eq_getElem?_getD, List.getElem?_eq_getElem hlt]
      exact h128 _ (List.getElem_mem hlt)
    refine jV (C := "java/lang/String") (al := [.int (nI n)]) (rest := rest.map (am_tv G)) (k := 1) (ix := ix) (own := am_cR (am_own z)) (mj_sch l (u0 := s) (H0 := H) (t := fun j => t.getD j 0) hs hF hlt (by omega) hc) hx hb (by rw [hml]; exact hl.1.1.symm) hown (j_hts hts hnc.2.2.2) (hts _ (am_at_in hi.2)) j_w1005 j_w20 j_w1007 j_w1006 (by decide) (by decide +kernel) rfl g1 g2 g3 (by omega) (by omega) ⟨hrm.1, hrm.2⟩ (am_cat rest h4) dg ?_
    rintro v H1 L ⟨rfl, rfl⟩ hL
    have k := hq _ rfl H1 (locs ++ L) lsc hH (j_S_no hS hL) hl
    rw [nI_clamp hn] at k
    exact k
  · cases h5
end JSide
end
section
section AmSound
variable {p : Program} {l : Launch} {e : Env} {R : Room} {s : State} {m : MethodId} {args : Array Value} {below : List Frame} {meth : Method} {c : Code} {Q : State → Prop} {G : am_Γ} {z : Nat} {X0 : am_X} {call : Nat → List am_V → am_M → am_X → Option am_R} {pc : Nat} {ls : am_S} {st : List am_V} {M : am_M} {X : am_X}
theorem am_ml_at {o ix k y : Nat} (hm : am_ml o ix = some (k, y)) : ∃ i, am_mlw (o, ix, k, y) i = true := am_al2_in am_ml_ok _ (am_look_in hm)
theorem am_ml_lt {o ix k y : Nat} (hm : am_ml o ix = some (k, y)) (hk : k < 5) : am_zk y := by
  obtain ⟨i, hi⟩ := am_ml_at hm
  have h5 : k = 0 ∨ k = 1 ∨ k = 2 ∨ k = 3 ∨ k = 4 := by omega
  rcases h5 with rfl | rfl | rfl | rfl | rfl <;> simp only [am_mlw, Bool.and_eq_true, decide_eq_true_eq] at hi
  · exact hi.2.1.2
  · exact hi.2.2
  · exact hi.2.1.2
  · exact hi.2.1.2
  · exact hi.2.1.2
/-- what is known of all calls from here -/
def am_Cs (l : Launch) (d : Nat) : Prop := ∀ y, am_zk y → ∀ (as : List am_V) (M : am_M) (X : am_X) (r : am_R), (∀ v ∈ as, am_one v) → as.length ≤ am_mL y → am_ev d y as M X = some r → am_Con l d y as M X r
end AmSound
end
section
/-! SOUNDNESS: what the abstract machine answers, the machine answers -/
section AmSound
variable {p : Program} {l : Launch} {e : Env} {R : Room} {s : State} {m : MethodId} {args : Array Value} {below : List Frame} {meth : Method} {c : Code} {Q : State → Prop} {G : am_Γ} {z : Nat} {X0 : am_X} {call : Nat → List am_V → am_M → am_X → Option am_R} {pc : Nat} {ls : am_S} {st : List am_V} {M : am_M} {X : am_X}
theorem am_s_obj {ix y : Nat} (C : am_Cx p l s m args meth c G z) (hm : am_ml (am_own z) ix = some (5, y)) (dg : decode (am_by z) pc = .ok (.invokespecial ix, 3)) (hR : 27 ≤ R.frames ∧ 751 ≤ R.locals) {w} (h : am_st call z (.invokespecial ix) pc ls st M X = some (.inl w)) (K : am_Sm p l e R s m args below meth c Q G z X0 w) : am_Sm p l e R s m args below meth c Q G z X0 (pc, ls, st, M, X) := by
  obtain ⟨i, hi⟩ := am_ml_at hm
  simp only [am_mlw, Bool.and_eq_true] at hi
  obtain ⟨hx, hb, hml, hown, hts, hK, hU, hN, hX, hbb, hlk, hst, hini⟩ := C
  simp only [am_st, am_ex, hm, am_inv] at h
  intro H locs lsc hH hS hl
  obtain ⟨l0, rest, rfl, h1⟩ := am_popP_i h
  obtain ⟨h4, h2⟩ := am_sm_i h1
  cases h2
  have hc8 := am_cat (G := G) rest h4
  exact W.objInit hx hb hown (hts _ (am_at_in hi.2)) (hts _ (am_ob_w (by simp [am_ob]))) (hts _ (am_ob_w (by simp [am_ob]))) rfl (by rw [hml]; exact hl.1.1) (a := if l0.1 = 0 then G.2.1 else am_adr G l0) rfl dg (by omega) (by show 2 * 0 + _ + 12 ≤ _; omega) (K H locs lsc hH hS hl)
theorem am_s_min {ix y : Nat} (C : am_Cx p l s m args meth c G z) (hm : am_ml (am_own z) ix = some (6, y)) (dg : decode (am_by z) pc = .ok (.invokestatic ix, 3)) (hR : 27 ≤ R.frames ∧ 751 ≤ R.locals) (hrm : X.2.2.1 - X0.2.2.1 ≤ R.cells ∧ X.2.2.2.1 - X0.2.2.2.1 ≤ R.slots) {w} (h : am_st call z (.invokestatic ix) pc ls st M X = some (.inl w)) (K : am_Sm p l e R s m args below meth c Q G z X0 w) : am_Sm p l e R s m args below meth c Q G z X0 (pc, ls, st, M, X) := by
  obtain ⟨i, hi⟩ := am_ml_at hm
  simp only [am_mlw, Bool.and_eq_true] at hi
  obtain ⟨hx, hb, hml, hown, hts, hK, hU, hN, hX, hbb, hlk, hst, hini⟩ := C
  simp only [am_st, am_ex, hm, am_inv] at h
  intro H locs lsc hH hS hl
  obtain ⟨y1, st1, rfl, h1⟩ := am_popI_i h
  obtain ⟨x1, rest, rfl, h2⟩ := am_popI_i h1
  obtain ⟨h4, h3⟩ := am_sm_i h2
  cases h3
  have hc8 := am_cat (G := G) rest h4
  exact va_mmin hx hb (by rw [hml]; exact hl.1.1.symm) hown (hts _ (am_at_in hi.2)) (hts _ (am_ob_w (by simp [am_ob]))) (hts _ (am_ob_w (by simp [am_ob]))) (hts _ (am_ob_w (by simp [am_ob]))) (by omega) (by omega) hrm.1 hrm.2 dg (K H locs lsc hH hS hl)
theorem am_nfw : nativeFrameWords "java/lang/System" "arraycopy" 5 + 11 ≤ 100 := by decide +kernel
/-- arraycopy between two rows of ints, only the second one changes -/
theorem am_Wcopy {H : Heap} {locs : List Loc} {cells slots : Nat} {lsc : Array Slot} {rest : List Value} {own : String} {index a a0 : Nat} {c1 : ClassId} {n0 n1 : Nat} {f g : Nat → Int32} (hx : p.tables.exec = Jvm.exec) (hb : c.code = am_by z) (hml : c.maxLocals = lsc.size) (hown : s.vm.findClass own = some m.cls)
    (hlink : (Cond.methodLink own index arraycopyName).before args s = true) (hnat : (Cond.native arraycopyName).before args s = true) (hstat : (Cond.static arraycopyName).before args s = true) (hini : (Cond.initialized "java/lang/System").before args s = true)
    (hK0 : va_K G.2.2.1 am_cl (am_tys G) s) (ht1 : (am_tys G)[0]? = some (c1, .int)) (hc0 : H[a0]? = some (arrV c1 n0 (fun j => .int (f j)))) (hc1 : H[a]? = some (arrV c1 n1 (fun j => .int (g j))))
    {sp dp n : Int32} (h1 : ¬ sp < 0) (h2 : ¬ dp < 0) (h3 : ¬ n < 0) (h4 : sp.toNatClampNeg + n.toNatClampNeg ≤ n0) (h5 : dp.toNatClampNeg + n.toNatClampNeg ≤ n1)
    (hframes : 1 ≤ R.frames) (hlocals : (rest.map fun v => v.category).sum + 100 ≤ R.locals) (dg : decode (am_by z) pc = .ok (.invokestatic index, 3))
    (kk : ∀ (H1 : Heap) (L : List Loc), H1.size = H.size → (∀ q : Nat, q ≠ a → H1[q]? = H[q]?) → H1[a]? = some (arrV c1 n1 (fun j => .int (va_cpy f g sp.toNatClampNeg dp.toNatClampNeg n.toNatClampNeg j))) → (∀ x ∈ L, x.base = a) → W p l e R s m args below meth c H1 (locs ++ L) cells slots Q (F0 m (pc + 3) lsc rest)) :
    W p l e R s m args below meth c H locs cells slots Q (F0 m pc lsc (.int n :: .int dp :: .ref a :: .int sp :: .ref a0 :: rest)) := by
  have nn : ∀ x : Int32, ¬ x < 0 → x.toInt = (x.toNatClampNeg : Int) := by
    intro x hx0
    have hz0 : (0 : Int) ≤ x.toInt := by
      have := Int32.not_lt.mp hx0
      simpa using Int32.le_iff_toInt_le.mp this
    show x.toInt = ((x.toInt.toNat : Nat) : Int)
    omega
  have hw := am_nfw
  intro T hT Y
  obtain ⟨-, k0, hk0, cm0, hkk0⟩ := (hK0.2 0 _ ht1).1 n0 (fun j => .int (f j))
  obtain ⟨-, k1, hk1, cm1, hkk1⟩ := (hK0.2 0 _ ht1).1 n1 (fun j => .int (g j))
  obtain ⟨vm', Y', step⟩ := Y.arraycopy hx hown hlink hnat hstat hini (src := a0) (dst := a) (cs := arrV c1 n0 (fun j => .int (f j))) (cd := arrV c1 n1 (fun j => .int (g j))) (srcPos := sp) (destPos := dp) (n := n) (by rw [hT]; exact hc0) (by rw [hT]; exact hc1)
    (fun _ h => by cases h) (fun _ h => by cases h) (fun h => by cases h) (fun h => by cases h) hk0 hk1 hkk0 hkk1 (by simp [refKind]) h1 h2 h3
    (by rw [nn sp h1, nn n h3, arrV_size]; omega) (by rw [nn dp h2, nn n h3, arrV_size]; omega)
    (fun vm₁ _ i hi => by
      have e : (arrV c1 n0 (fun j => .int (f j))).slots.getD (sp.toNatClampNeg + i) .null = .int (f (sp.toNatClampNeg + i)) := by
        rw [Array.getD_eq_getD_getElem?, arrV_read _ _ (by omega)]
        rfl
      refine ⟨?_, ?_⟩
      · rw [e]; rfl
      · rw [e]; exact trivial)
    (g := F0 m pc lsc (.int n :: .int dp :: .ref a :: .int sp :: .ref a0 :: rest)) rfl (by rw [hml]) (rest := rest) rfl (by rw [hb]; exact dg) hframes (by show 2 * 0 + _ + _ ≤ _; omega)
  have e1 : copied (arrV c1 n0 (fun j => .int (f j))) (arrV c1 n1 (fun j => .int (g j))) sp dp n = arrV c1 n1 (fun j => .int (va_cpy f g sp.toNatClampNeg dp.toNatClampNeg n.toNatClampNeg j)) := va_copied (fun x => .int x) c1 c1 f g h4
  rw [e1] at Y' step
  have hl : a < H.size := (Array.getElem?_eq_some_iff.mp hc1).1
  have hheap : ∀ x : Cell, ((T.setVm vm').setCell a x).heap = H.setIfInBounds a x := fun x => by rw [← hT]; rfl
  obtain ⟨t, a1, b1⟩ := kk _ _ (by simp) (fun q hq => by simp [Array.getElem?_setIfInBounds, Ne.symm hq]) (by simp [Array.getElem?_setIfInBounds, hl]) (fun x hx0 => by obtain ⟨y, -, hy⟩ := List.mem_map.mp hx0; rw [← hy]) _ (hheap _) Y'
  exact ⟨t, step t a1, b1⟩
theorem am_s_copy {ix y : Nat} (C : am_Cx p l s m args meth c G z) (hm : am_ml (am_own z) ix = some (7, y)) (dg : decode (am_by z) pc = .ok (.invokestatic ix, 3)) (hR : 27 ≤ R.frames ∧ 751 ≤ R.locals) {w} (h : am_st call z (.invokestatic ix) pc ls st M X = some (.inl w)) (K : am_Sm p l e R s m args below meth c Q G z X0 w) : am_Sm p l e R s m args below meth c Q G z X0 (pc, ls, st, M, X) := by
  obtain ⟨i, hi⟩ := am_ml_at hm
  simp only [am_mlw, Bool.and_eq_true] at hi
  obtain ⟨hx, hb, hml, hown, hts, hK, hU, hN, hX, hbb, hlk, hst, hini⟩ := C
  simp only [am_st, am_ex, hm, am_inv] at h
  intro H locs lsc hH hS hl
  dsimp only at hH hl ⊢
  obtain ⟨n, st1, rfl, h1⟩ := am_popI_i h
  obtain ⟨dp, st2, rfl, h2⟩ := am_popI_i h1
  obtain ⟨a, st3, rfl, h3⟩ := am_popP_i h2
  obtain ⟨sp, st4, rfl, h5⟩ := am_popI_i h3
  obtain ⟨a0, rest, rfl, h6⟩ := am_popP_i h5
  obtain ⟨h4, h7⟩ := am_sm_i h6
  obtain ⟨⟨g1, g2, g3, g4, g5, g6, g7, g8, g9, g10⟩, h8⟩ := am_if_i h7
  cases h8
  have hc8 := am_cat (G := G) rest h4
  obtain ⟨k1, k2, ka⟩ : ∃ x y, am_kd a = (1, x, y) := ⟨(am_kd a).2.1, (am_kd a).2.2, by rw [← g4]⟩
  obtain ⟨k3, k4, kb⟩ : ∃ x y, am_kd a0 = (1, x, y) := ⟨(am_kd a0).2.1, (am_kd a0).2.2, by rw [← g5]⟩
  have ha := am_kd_ne ka (by decide)
  have ha0 := am_kd_ne kb (by decide)
  show W p l e R s m args below meth c H locs _ _ Q (F0 m pc lsc (.int n :: .int dp :: am_rv G (some a) :: .int sp :: am_rv G (some a0) :: rest.map (am_tv G)))
  rw [am_rv_ref ha, am_rv_ref ha0]
  rw [ka] at g10
  rw [kb] at g9
  refine am_Wcopy hx hb (by rw [hml]; exact hl.1.1.symm) hown (hts _ (am_at_in hi.2)) (hts _ (am_ob_w (by simp [am_ob]))) (hts _ (am_ob_w (by simp [am_ob]))) (hts _ (am_ob_w (by simp [am_ob]))) hK rfl ((am_cell_1 kb).mp (hH.1 a0 g3 ha0)) ((am_cell_1 ka).mp (hH.1 a g2 ha)) g6 g7 g8 g9 g10 (by omega) (by omega) dg (fun H1 L z1 o1 e1 hL => ?_)
  have hcp : ∀ l', l' ≠ a → am_cp M a0 a sp.toNatClampNeg dp.toNatClampNeg n.toNatClampNeg l' = M l' := fun l' hl' => by funext j; exact if_neg hl'
  refine K H1 (locs ++ L) lsc (am_HR.upd hH g2 ha z1 o1 hcp (fun _ _ => rfl) rfl rfl hH.2.2.2.1 ?_) (hS.am (Nat.le_of_eq z1.symm) (fun q _ hq => o1 q (fun z => hq (by rw [z]; exact am_adr_A hbb.2.2.2 (am_al_ok g2)))) (fun x hx => by rw [hL x hx]; exact am_adr_A hbb.2.2.2 (am_al_ok g2))) hl
  rw [am_cell_1 ka, e1]
  refine am_arr_eq (fun k _ => ?_)
  dsimp only
  rw [show am_cp M a0 a sp.toNatClampNeg dp.toNatClampNeg n.toNatClampNeg a k = va_cpy (M a0) (M a) sp.toNatClampNeg dp.toNatClampNeg n.toNatClampNeg k from if_pos rfl]
set_option maxHeartbeats 4000000 in
/-- one instruction that goes on -/
theorem am_sim {i : Instr} (C : am_Cx p l s m args meth c G z) (hcd : am_cd z pc = some i) (hF : am_isF i = false) {w} (h : am_st call z i pc ls st M X = some (.inl w)) (hle : am_le X0 X) (hrm : w.2.2.2.2.2.2.1 - X0.2.2.1 ≤ R.cells ∧ w.2.2.2.2.2.2.2.1 - X0.2.2.2.1 ≤ R.slots) (K : am_Sm p l e R s m args below meth c Q G z X0 w) : am_Sm p l e R s m args below meth c Q G z X0 (pc, ls, st, M, X) := by
  cases i
  case iload j => exact am_s_iload C (am_dg hcd rfl (by decide)) h K
  case aload j => exact am_s_aload C (am_dg hcd rfl (by decide)) h K
  case fload j => exact am_s_fload C (am_dg hcd rfl (by decide)) h K
  case dload j => exact am_s_dload C (am_dg hcd rfl (by decide)) h K
  case istore j => exact am_s_istore C (am_dg hcd rfl (by decide)) h K
  case astore j => exact am_s_astore C (am_dg hcd rfl (by decide)) h K
  case fstore j => exact am_s_fstore C (am_dg hcd rfl (by decide)) h K
  case dstore j => exact am_s_dstore C (am_dg hcd rfl (by decide)) h K
  case iconst j => exact am_s_iconst C (am_dg hcd rfl (by decide)) h K
  case bipush j => exact am_s_bipush C (am_dg hcd rfl (by decide)) h K
  case sipush j => exact am_s_sipush C (am_dg hcd rfl (by decide)) h K
  case lconst j => exact am_s_lconst C (am_dg hcd rfl (by decide)) h K
  case ldc j => exact am_s_ldc C (am_dg hcd rfl (by decide)) h K
  case fcmp j => exact am_s_fcmp C (am_dg hcd rfl (by decide)) h K
  case dcmp j => exact am_s_dcmp C (am_dg hcd rfl (by decide)) h K
  case goto j => exact am_s_goto C (am_dg hcd rfl (by decide)) h K
  case getfield j => exact am_s_getfield C (am_dg hcd rfl (by decide)) h K
  case putfield j => exact am_s_putfield C (am_dg hcd rfl (by decide)) h K
  case iload_n j => exact am_s_iload_n C (am_dg hcd rfl (by decide)) h K
  case aload_n j => exact am_s_aload_n C (am_dg hcd rfl (by decide)) h K
  case istore_n j => exact am_s_istore_n C (am_dg hcd rfl (by decide)) h K
  case astore_n j => exact am_s_astore_n C (am_dg hcd rfl (by decide)) h K
  case iinc j k => exact am_s_iinc C (am_dg hcd rfl (by decide)) h K
  case iadd => exact am_s_iadd C (am_dg hcd rfl (by decide)) h K
  case isub => exact am_s_isub C (am_dg hcd rfl (by decide)) h K
  case imul => exact am_s_imul C (am_dg hcd rfl (by decide)) h K
  case iand => exact am_s_iand C (am_dg hcd rfl (by decide)) h K
  case ior => exact am_s_ior C (am_dg hcd rfl (by decide)) h K
  case ishl => exact am_s_ishl C (am_dg hcd rfl (by decide)) h K
  case ishr => exact am_s_ishr C (am_dg hcd rfl (by decide)) h K
  case idiv => exact am_s_idiv C (am_dg hcd rfl (by decide)) h K
  case irem => exact am_s_irem C (am_dg hcd rfl (by decide)) h K
  case i2l => exact am_s_i2l C (am_dg hcd rfl (by decide)) h K
  case i2c => exact am_s_i2c C (am_dg hcd rfl (by decide)) h K
  case i2f => exact am_s_i2f C (am_dg hcd rfl (by decide)) h K
  case i2d => exact am_s_i2d C (am_dg hcd rfl (by decide)) h K
  case f2d => exact am_s_f2d C (am_dg hcd rfl (by decide)) h K
  case fdiv => exact am_s_fdiv C (am_dg hcd rfl (by decide)) h K
  case ddiv => exact am_s_ddiv C (am_dg hcd rfl (by decide)) h K
  case lcmp => exact am_s_lcmp C (am_dg hcd rfl (by decide)) h K
  case dup => exact am_s_dup C (am_dg hcd rfl (by decide)) h K
  case pop => exact am_s_pop C (am_dg hcd rfl (by decide)) h K
  case dup2 => exact am_s_dup2 C (am_dg hcd rfl (by decide)) h K
  case dup_x1 => exact am_s_dup_x1 C (am_dg hcd rfl (by decide)) h K
  case dup_x2 => exact am_s_dup_x2 C (am_dg hcd rfl (by decide)) h K
  case iaload => exact am_s_iaload C (am_dg hcd rfl (by decide)) h K
  case caload => exact am_s_caload C (am_dg hcd rfl (by decide)) h K
  case aaload => exact am_s_aaload C (am_dg hcd rfl (by decide)) h K
  case laload => exact am_s_laload C (am_dg hcd rfl (by decide)) h K
  case ldc2_w j => exact am_s_ldc2_w C (am_dg hcd rfl (by decide)) h K
  case lload j => exact am_s_lload C (am_dg hcd rfl (by decide)) h K
  case lload_n j => exact am_s_lload_n C (am_dg hcd rfl (by decide)) h K
  case lstore j => exact am_s_lstore C (am_dg hcd rfl (by decide)) h K
  case lstore_n j => exact am_s_lstore_n C (am_dg hcd rfl (by decide)) h K
  case ladd => exact am_s_ladd C (am_dg hcd rfl (by decide)) h K
  case lmul => exact am_s_lmul C (am_dg hcd rfl (by decide)) h K
  case ixor => exact am_s_ixor C (am_dg hcd rfl (by decide)) h K
  case iastore => exact am_s_iastore C (am_dg hcd rfl (by decide)) h K
  case castore => exact am_s_castore C (am_dg hcd rfl (by decide)) h K
  case lastore => exact am_s_lastore C (am_dg hcd rfl (by decide)) h K
  case aastore => exact am_s_aastore C (am_dg hcd rfl (by decide)) h K
  case arraylength => exact am_s_alen C (am_dg hcd rfl (by decide)) h K
  case ifCond a b => cases a <;> first | exact am_s_if_eq C (am_dg hcd rfl (by decide)) h K | exact am_s_if_ne C (am_dg hcd rfl (by decide)) h K | exact am_s_if_lt C (am_dg hcd rfl (by decide)) h K | exact am_s_if_ge C (am_dg hcd rfl (by decide)) h K | exact am_s_if_gt C (am_dg hcd rfl (by decide)) h K | exact am_s_if_le C (am_dg hcd rfl (by decide)) h K
  case if_icmp a b => cases a <;> first | exact am_s_ic_eq C (am_dg hcd rfl (by decide)) h K | exact am_s_ic_ne C (am_dg hcd rfl (by decide)) h K | exact am_s_ic_lt C (am_dg hcd rfl (by decide)) h K | exact am_s_ic_ge C (am_dg hcd rfl (by decide)) h K | exact am_s_ic_gt C (am_dg hcd rfl (by decide)) h K | exact am_s_ic_le C (am_dg hcd rfl (by decide)) h K
  case tableswitch a b d f =>
    obtain ⟨n, dg, -⟩ := am_dg0 hcd
    exact am_s_ts C dg h K
  case lookupswitch a b =>
    obtain ⟨n, dg, -⟩ := am_dg0 hcd
    exact am_s_lk C dg h K
  case newarray t => cases t <;> first | exact nomatch (show (none : Option am_N) = some (.inl w) from h) | exact am_s_newint C (am_dg hcd rfl (by decide)) h hle hrm K | exact am_s_newchar C (am_dg hcd rfl (by decide)) h hle hrm K | exact absurd hF (by decide)
  case anewarray j => exact am_s_anew C (am_dg hcd rfl (by decide)) h hle hrm K
  all_goals first | exact nomatch (show (none : Option am_N) = some (.inl w) from h) | exact absurd hF (by decide) | exact absurd hF (fun q => by cases q)
theorem am_hd_ne {pc E : Nat} {q : Nat × Nat} (h : am_hd z pc E = some q) : am_hs z ≠ [] := by
  intro e
  unfold am_hd at h
  rw [e] at h
  cases h
/-- behind a call -/
theorem am_called {r r0 : am_R} {rest : List am_V} {a : Array Value} (hz : z < 232) (C : am_Cx p l s m args meth c G z) (hnc : am_Nc G s) (htab : am_hs z ≠ [] → c.exceptionTable.toList = tableOf (am_hh z)) (hle1 : am_le X0 X) (hle2 : am_le X r.2.2)
    (hr : ∀ (H : Heap) (locs : List Loc) (lsc : Array Slot), am_HR G M X H → va_S (am_A G) s.heap H locs → lsc.size = am_mL z → vx_Run p l e R s m args below meth c H locs (X.2.2.1 - X0.2.2.1) (X.2.2.2.1 - X0.2.2.2.1) (am_dc X r) (am_ds X r) (F0 m pc lsc (st.map (am_tv G))) (rest.map (am_tv G)) (am_Qr G r a) (am_XCr G r) (am_A G))
    (hthr : ∀ (E : Nat) (H : Heap) (locs : List Loc) (lsc : Array Slot) (rest : List Value) (q : Addr) (ce : Cell), r0.1 = .inr E → am_tr z = true → am_HR G r0.2.1 r0.2.2 H → va_S (am_A G) s.heap H locs → H[q]? = some ce → ce.vm = .none → s.vm.findClass (am_en E) = some ce.cls → vx_W p l e R s m args below meth c H locs (r0.2.2.2.2.1 - X0.2.2.1) (r0.2.2.2.2.2.1 - X0.2.2.2.1) Q (F0 m pc lsc rest) q)
    {q : am_N} (h : am_bk z pc ls rest (some r) (fun a b c d e => some (.inl (a, b, c, d, e))) (fun r => some (.inr r)) = some q) (hq : ∀ w, q = .inl w → am_Sm p l e R s m args below meth c Q G z X0 w) (hq2 : ∀ r', q = .inr r' → r' = r0) : am_Sm p l e R s m args below meth c Q G z X0 (pc, ls, st, M, X) := by
  obtain ⟨g1, g2⟩ := hle1
  obtain ⟨g3, g4⟩ := hle2
  intro H locs lsc hH hS hl
  have hr' := hr H locs lsc hH hS hl.1.1
  rcases am_bk_i h with ⟨v, M', X', e1, h1⟩ | ⟨E, M', X', e1, hd, htr, h1⟩ | ⟨E, M', X', t, j, e1, hd, h1⟩
  · have e1 := Option.some.inj e1
    subst e1
    have K := hq _ (Option.some.inj h1).symm
    refine am_after_v hr' hS rfl (fun H1 locs1 hH1 hS1 => ?_)
    have K1 := K H1 locs1 lsc hH1 hS1 hl
    dsimp only [am_dc, am_ds] at K1 g3 g4 ⊢
    rw [show (v.map (am_tv G)).toList ++ rest.map (am_tv G) = (v.toList ++ rest).map (am_tv G) by cases v <;> rfl]
    exact W.cs (by omega) (by omega) K1
  · have e1 := Option.some.inj e1
    subst e1
    have e2 := hq2 _ (Option.some.inj h1).symm
    subst e2
    refine am_after_x hr' hS rfl (fun H1 locs1 q1 ce hH1 hS1 c1 c2 c3 => ?_)
    dsimp only [am_dc, am_ds] at g3 g4 ⊢
    refine vx_widen ?_ ?_ (hthr E H1 locs1 lsc _ q1 ce rfl htr hH1 hS1 c1 c2 c3) <;> dsimp only <;> omega
  · have e1 := Option.some.inj e1
    subst e1
    have K := hq _ (Option.some.inj h1).symm
    refine am_after_x hr' hS rfl (fun H1 locs1 q1 ce hH1 hS1 c1 c2 c3 => ?_)
    refine am_catch hz C hnc (htab (am_hd_ne hd)) hd hl c1 c2 c3 (fun lsc' hl' => ?_)
    have K1 := K H1 locs1 lsc' hH1 hS1 hl'
    dsimp only [am_dc, am_ds] at K1 g3 g4 ⊢
    exact W.cs (by omega) (by omega) K1
theorem am_bk_nx {r : am_R} {rest : List am_V} {q : am_N} (h : am_bk z pc ls rest (some r) (fun a b c d e => some (.inl (a, b, c, d, e))) (fun r => some (.inr r)) = some q) : am_nx q = r.2.2 := by
  rcases am_bk_i h with ⟨v, M', X', e1, h1⟩ | ⟨E, M', X', e1, hd, htr, h1⟩ | ⟨E, M', X', t, j, e1, hd, h1⟩ <;> (cases Option.some.inj e1; cases h1; rfl)
theorem am_bk_so {cr : Option am_R} {rest : List am_V} {q : am_N} (h : am_bk z pc ls rest cr (fun a b c d e => some (.inl (a, b, c, d, e))) (fun r => some (.inr r)) = some q) : ∃ r, cr = some r := by
  cases cr with
  | none => cases h
  | some r => exact ⟨r, rfl⟩
theorem am_ml_ks {o ix k y : Nat} (hm : am_ml o ix = some (k, y)) : (k = 0 → am_ks y = 1) ∧ (k = 2 ∨ k = 3 → am_ks y = 2) := by
  obtain ⟨i, hi⟩ := am_ml_at hm
  refine ⟨fun e => ?_, fun e => ?_⟩
  · subst e
    simp only [am_mlw, Bool.and_eq_true, decide_eq_true_eq, beq_iff_eq] at hi
    exact hi.2.1.1.2
  · rcases e with rfl | rfl <;> simp only [am_mlw, Bool.and_eq_true, decide_eq_true_eq, beq_iff_eq] at hi
    · exact hi.2.1.1.2
    · exact hi.2.1.1.2
theorem am_one_rev {vs : List am_V} (h : ∀ v ∈ vs, am_one v) : ∀ v ∈ vs.reverse, am_one v := fun v hv => h v (List.mem_reverse.mp hv)
theorem am_one_cons {l0 : am_L} {vs : List am_V} (h : ∀ v ∈ vs, am_one v) : ∀ v ∈ (.inr (some l0) :: vs.reverse : List am_V), am_one v := fun v hv => (List.mem_cons.mp hv).elim (fun e => by rw [e]; exact Or.inr ⟨l0, rfl⟩) (am_one_rev h v)
theorem am_na_le {y : Nat} (hy : am_zk y) : am_na y + (if am_ks y = 0 then 0 else 1) ≤ am_mL y := (am_z_facts hy).2.2.2.2.2.2.2.2.2
theorem am_s_iv {d ix : Nat} {r0 : am_R} (hz : z < 232) (C : am_Cx p l s m args meth c G z) (hnc : am_Nc G s) (htab : am_hs z ≠ [] → c.exceptionTable.toList = tableOf (am_hh z)) (hcs : am_Cs l d) (hfr : d + 27 ≤ R.frames) (hlo : 31 * d + 751 ≤ R.locals) (hle1 : am_le X0 X)
    (hthr : ∀ (E : Nat) (H : Heap) (locs : List Loc) (lsc : Array Slot) (rest : List Value) (q : Addr) (ce : Cell), r0.1 = .inr E → am_tr z = true → am_HR G r0.2.1 r0.2.2 H → va_S (am_A G) s.heap H locs → H[q]? = some ce → ce.vm = .none → s.vm.findClass (am_en E) = some ce.cls → vx_W p l e R s m args below meth c H locs (r0.2.2.2.2.1 - X0.2.2.1) (r0.2.2.2.2.2.1 - X0.2.2.2.1) Q (F0 m pc lsc rest) q)
    (hcd : am_cd z pc = some (.invokevirtual ix)) {q : am_N} (h : am_st (am_ev d) z (.invokevirtual ix) pc ls st M X = some q) (hrm : (am_nx q).2.2.1 - X0.2.2.1 ≤ R.cells ∧ (am_nx q).2.2.2.1 - X0.2.2.2.1 ≤ R.slots) (hq : ∀ w, q = .inl w → am_Sm p l e R s m args below meth c Q G z X0 w) (hq2 : ∀ r', q = .inr r' → r' = r0) : am_Sm p l e R s m args below meth c Q G z X0 (pc, ls, st, M, X) := by
  dsimp only [am_st, am_ex] at h
  split at h
  · rename_i y hm
    simp only [am_inv] at h
    obtain ⟨vs, st1, hlen, rfl, hone, h1⟩ := am_popN_i h
    obtain ⟨l0, rest, rfl, h2⟩ := am_popP_i h1
    obtain ⟨h4, h3⟩ := am_sm_i h2
    obtain ⟨hal, hkd, h5⟩ := am_chk_i h3
    obtain ⟨r, hr⟩ := am_bk_so h5
    rw [hr] at h5
    have hle2 := am_ev_le _ _ _ _ _ _ hr
    rw [am_bk_nx h5] at hrm
    obtain ⟨g1, g2⟩ := hle1
    obtain ⟨g3, g4⟩ := hle2
    rw [List.append_nil] at hr
    have hy := am_ml_lt hm (by omega)
    have hna := am_na_le hy
    rw [if_neg (by rw [(am_ml_ks hm).1 rfl]; decide)] at hna
    have hlen2 : (.inr (some l0) :: vs.reverse : List am_V).length ≤ am_mL y := by rw [List.length_cons, List.length_reverse, hlen]; omega
    refine am_called hz C hnc htab ⟨g1, g2⟩ ⟨g3, g4⟩ (fun H locs lsc hH hS hsz => am_run_v C hnc hm (am_dg hcd rfl (by decide)) hlen h4 hal hkd (hcs y hy _ _ _ _ (am_one_cons hone) hlen2 hr) hfr hlo hH hS hsz (by dsimp only [am_dc, am_ds] at *; omega)) hthr h5 hq hq2
  · rename_i y hm
    exact am_s_sln C hnc hm (am_dg hcd rfl (by decide)) (by omega) hle1 h hrm hq
  · rename_i y hm
    exact am_s_sch C hnc hm (am_dg hcd rfl (by decide)) (by omega) hle1 h hrm hq
  · cases h
theorem am_s_is {d ix k y : Nat} {r0 : am_R} (hz : z < 232) (C : am_Cx p l s m args meth c G z) (hnc : am_Nc G s) (htab : am_hs z ≠ [] → c.exceptionTable.toList = tableOf (am_hh z)) (hcs : am_Cs l d) (hfr : d + 27 ≤ R.frames) (hlo : 31 * d + 751 ≤ R.locals) (hle1 : am_le X0 X)
    (hthr : ∀ (E : Nat) (H : Heap) (locs : List Loc) (lsc : Array Slot) (rest : List Value) (q : Addr) (ce : Cell), r0.1 = .inr E → am_tr z = true → am_HR G r0.2.1 r0.2.2 H → va_S (am_A G) s.heap H locs → H[q]? = some ce → ce.vm = .none → s.vm.findClass (am_en E) = some ce.cls → vx_W p l e R s m args below meth c H locs (r0.2.2.2.2.1 - X0.2.2.1) (r0.2.2.2.2.2.1 - X0.2.2.2.1) Q (F0 m pc lsc rest) q)
    (hcd : am_cd z pc = some (.invokestatic ix)) (hm : am_ml (am_own z) ix = some (k, y)) (hk : k = 1 ∨ k = 4) {q : am_N} (h : am_inv (am_ev d) z 1 y pc ls st M X (fun a b c d e => some (.inl (a, b, c, d, e))) (fun r => some (.inr r)) = some q) (hrm : (am_nx q).2.2.1 - X0.2.2.1 ≤ R.cells ∧ (am_nx q).2.2.2.1 - X0.2.2.2.1 ≤ R.slots) (hq : ∀ w, q = .inl w → am_Sm p l e R s m args below meth c Q G z X0 w) (hq2 : ∀ r', q = .inr r' → r' = r0) : am_Sm p l e R s m args below meth c Q G z X0 (pc, ls, st, M, X) := by
  simp only [am_inv] at h
  obtain ⟨vs, rest, hlen, rfl, hone, h1⟩ := am_popN_i h
  obtain ⟨h4, h5⟩ := am_sm_i h1
  obtain ⟨r, hr⟩ := am_bk_so h5
  rw [hr] at h5
  have hle2 := am_ev_le _ _ _ _ _ _ hr
  rw [am_bk_nx h5] at hrm
  obtain ⟨g1, g2⟩ := hle1
  obtain ⟨g3, g4⟩ := hle2
  rw [List.append_nil] at hr
  have hy := am_ml_lt hm (by omega)
  have hna := am_na_le hy
  have hlen2 : vs.reverse.length ≤ am_mL y := by rw [List.length_reverse, hlen]; omega
  refine am_called hz C hnc htab ⟨g1, g2⟩ ⟨g3, g4⟩ (fun H locs lsc hH hS hsz => am_run_s C hnc hm hk (am_dg hcd rfl (by decide)) hlen h4 (hcs y hy _ _ _ _ (am_one_rev hone) hlen2 hr) hfr hlo hH hS hsz (by dsimp only [am_dc, am_ds] at *; omega)) hthr h5 hq hq2
theorem am_s_ii {d ix k y : Nat} {r0 : am_R} (hz : z < 232) (C : am_Cx p l s m args meth c G z) (hnc : am_Nc G s) (htab : am_hs z ≠ [] → c.exceptionTable.toList = tableOf (am_hh z)) (hcs : am_Cs l d) (hfr : d + 27 ≤ R.frames) (hlo : 31 * d + 751 ≤ R.locals) (hle1 : am_le X0 X)
    (hthr : ∀ (E : Nat) (H : Heap) (locs : List Loc) (lsc : Array Slot) (rest : List Value) (q : Addr) (ce : Cell), r0.1 = .inr E → am_tr z = true → am_HR G r0.2.1 r0.2.2 H → va_S (am_A G) s.heap H locs → H[q]? = some ce → ce.vm = .none → s.vm.findClass (am_en E) = some ce.cls → vx_W p l e R s m args below meth c H locs (r0.2.2.2.2.1 - X0.2.2.1) (r0.2.2.2.2.2.1 - X0.2.2.2.1) Q (F0 m pc lsc rest) q)
    (hcd : am_cd z pc = some (.invokespecial ix)) (hm : am_ml (am_own z) ix = some (k, y)) (hk : k = 2 ∨ k = 3) {q : am_N} (h : am_inv (am_ev d) z 0 y pc ls st M X (fun a b c d e => some (.inl (a, b, c, d, e))) (fun r => some (.inr r)) = some q) (hrm : (am_nx q).2.2.1 - X0.2.2.1 ≤ R.cells ∧ (am_nx q).2.2.2.1 - X0.2.2.2.1 ≤ R.slots) (hq : ∀ w, q = .inl w → am_Sm p l e R s m args below meth c Q G z X0 w) (hq2 : ∀ r', q = .inr r' → r' = r0) : am_Sm p l e R s m args below meth c Q G z X0 (pc, ls, st, M, X) := by
  simp only [am_inv] at h
  obtain ⟨vs, st1, hlen, rfl, hone, h1⟩ := am_popN_i h
  obtain ⟨l0, rest, rfl, h2⟩ := am_popP_i h1
  obtain ⟨h4, h3⟩ := am_sm_i h2
  obtain ⟨hal, hkd, h5⟩ := am_chk_i h3
  obtain ⟨r, hr⟩ := am_bk_so h5
  rw [hr] at h5
  have hle2 := am_ev_le _ _ _ _ _ _ hr
  rw [am_bk_nx h5] at hrm
  obtain ⟨g1, g2⟩ := hle1
  obtain ⟨g3, g4⟩ := hle2
  rw [List.append_nil] at hr
  have hy := am_ml_lt hm (by omega)
  have hna := am_na_le hy
  rw [if_neg (by rw [(am_ml_ks hm).2 hk]; decide)] at hna
  have hlen2 : (.inr (some l0) :: vs.reverse : List am_V).length ≤ am_mL y := by rw [List.length_cons, List.length_reverse, hlen]; omega
  refine am_called hz C hnc htab ⟨g1, g2⟩ ⟨g3, g4⟩ (fun H locs lsc hH hS hsz => am_run_i C hnc hm hk (am_dg hcd rfl (by decide)) hlen h4 hkd (hcs y hy _ _ _ _ (am_one_cons hone) hlen2 hr) hfr hlo hH hS hsz (by dsimp only [am_dc, am_ds] at *; omega)) hthr h5 hq hq2
end AmSound
end
section
/-! WHAT GOES BESIDE: a String constant that goes to a call, a text that is put together -/
abbrev jy_some : MethodName := ⟨"BellTelegraphLaw", "some", "(II)I"⟩
abbrev jc_some : ByteArray := method_3_code
abbrev jr_some : Option FieldType := (Option.some Jvm.ClassFile.FieldType.int)
theorem j_w1185 : Jvm.Cond.methodLink "BellTelegraphLaw" (243 : Nat) ({ cls := "java/lang/StringBuilder", name := "append", desc := "(Ljava/lang/String;)Ljava/lang/StringBuilder;" } : Jvm.MethodName) ∈ j_W := j_at_in (i := 1194) (by decide +kernel)
theorem j_w1186 : Jvm.Cond.instanceMethod ({ cls := "java/lang/StringBuilder", name := "append", desc := "(Ljava/lang/String;)Ljava/lang/StringBuilder;" } : Jvm.MethodName) ∈ j_W := j_at_in (i := 1195) (by decide +kernel)
theorem j_w1188 : Jvm.Cond.code ({ cls := "java/lang/StringBuilder", name := "append", desc := "(Ljava/lang/String;)Ljava/lang/StringBuilder;" } : Jvm.MethodName) prog_31_method_7_code (2 : Nat) (Option.some (Jvm.ClassFile.FieldType.object "java/lang/StringBuilder")) ∈ j_W := j_at_in (i := 1197) (by decide +kernel)
theorem j_w1187 : Jvm.Cond.selects "java/lang/StringBuilder" ({ cls := "java/lang/StringBuilder", name := "append", desc := "(Ljava/lang/String;)Ljava/lang/StringBuilder;" } : Jvm.MethodName) ({ cls := "java/lang/StringBuilder", name := "append", desc := "(Ljava/lang/String;)Ljava/lang/StringBuilder;" } : Jvm.MethodName) ∈ j_W := j_at_in (i := 1196) (by decide +kernel)
theorem j_w1284 : Jvm.Cond.methodLink "BellTelegraphLaw" (246 : Nat) ({ cls := "java/lang/StringBuilder", name := "append", desc := "(I)Ljava/lang/StringBuilder;" } : Jvm.MethodName) ∈ j_W := j_at_in (i := 1293) (by decide +kernel)
theorem j_w1285 : Jvm.Cond.instanceMethod ({ cls := "java/lang/StringBuilder", name := "append", desc := "(I)Ljava/lang/StringBuilder;" } : Jvm.MethodName) ∈ j_W := j_at_in (i := 1294) (by decide +kernel)
theorem j_w1287 : Jvm.Cond.code ({ cls := "java/lang/StringBuilder", name := "append", desc := "(I)Ljava/lang/StringBuilder;" } : Jvm.MethodName) prog_31_method_15_code (2 : Nat) (Option.some (Jvm.ClassFile.FieldType.object "java/lang/StringBuilder")) ∈ j_W := j_at_in (i := 1296) (by decide +kernel)
theorem j_w1286 : Jvm.Cond.selects "java/lang/StringBuilder" ({ cls := "java/lang/StringBuilder", name := "append", desc := "(I)Ljava/lang/StringBuilder;" } : Jvm.MethodName) ({ cls := "java/lang/StringBuilder", name := "append", desc := "(I)Ljava/lang/StringBuilder;" } : Jvm.MethodName) ∈ j_W := j_at_in (i := 1295) (by decide +kernel)
theorem j_w363 : Jvm.Cond.methodLink "BellTelegraphLaw" (157 : Nat) ({ cls := "BellTelegraphLaw", name := "some", desc := "(II)I" } : Jvm.MethodName) ∈ j_W := j_at_in (i := 372) (by decide +kernel)
theorem j_w364 : Jvm.Cond.static ({ cls := "BellTelegraphLaw", name := "some", desc := "(II)I" } : Jvm.MethodName) ∈ j_W := j_at_in (i := 373) (by decide +kernel)
theorem j_w0 : Jvm.Cond.initialized "BellTelegraphLaw" ∈ j_W := j_at_in (i := 9) (by decide +kernel)
theorem j_w365 : Jvm.Cond.code ({ cls := "BellTelegraphLaw", name := "some", desc := "(II)I" } : Jvm.MethodName) method_3_code (3 : Nat) (Option.some Jvm.ClassFile.FieldType.int) ∈ j_W := j_at_in (i := 374) (by decide +kernel)
theorem j_w1155 : Jvm.Cond.instantiable "java/lang/StringBuilder" (4 : Nat) ∈ j_W := j_at_in (i := 1164) (by decide +kernel)
theorem dj_some_0 : decode jc_some 0 = .ok (.iload_n 0, 1) := by decide +kernel
theorem dj_some_1 : decode jc_some 1 = .ok (.iload_n 1, 1) := by decide +kernel
theorem dj_some_2 : decode jc_some 2 = .ok (.irem, 1) := by decide +kernel
theorem dj_some_3 : decode jc_some 3 = .ok (.istore_n 2, 1) := by decide +kernel
theorem dj_some_4 : decode jc_some 4 = .ok (.iload_n 2, 1) := by decide +kernel
theorem dj_some_5 : decode jc_some 5 = .ok (.ifCond .ge 9, 3) := by decide +kernel
theorem dj_some_14 : decode jc_some 14 = .ok (.iload_n 2, 1) := by decide +kernel
theorem dj_some_15 : decode jc_some 15 = .ok (.ireturn, 1) := by decide +kernel
theorem dj_some_8 : decode jc_some 8 = .ok (.iload_n 2, 1) := by decide +kernel
theorem dj_some_9 : decode jc_some 9 = .ok (.iload_n 1, 1) := by decide +kernel
theorem dj_some_10 : decode jc_some 10 = .ok (.iadd, 1) := by decide +kernel
theorem dj_some_11 : decode jc_some 11 = .ok (.goto 4, 3) := by decide +kernel
theorem j_ldcw0 {p : Program} {l : Launch} {e : Env} {R : Room} {s : State} {m : MethodId} {args : Array Value} {below : List Frame} {meth : Method} {c : Code} {T : State} {locs : List Loc} {cells slots : Nat}
    (X : Stand p l e R s m args below meth c T locs cells slots) (hexec : p.tables.exec = Jvm.exec) {own text : String} {index : Nat} {a : Addr} (hown : s.vm.findClass own = some m.cls)
    (hconst : (Cond.stringRef own index text).before args s = true) (hev : (Term.string own index).eval args s none [] s = some (.ref a)) {g : JFrame} (hg : g.method = m) (hdg : decode c.code g.pc = .ok (.ldc_w index, 3)) :
    ∀ target, Steps p.tables e below (T.setTop { g with pc := g.pc + 3, stack := .ref a :: g.stack }) target → Steps p.tables e below (T.setTop g) target := by
  obtain ⟨k, cf, i, a', hk, hcf, hcp, -, hr, hev'⟩ := Cond.stringRef_spec hown hconst
  cases hev.symm.trans hev'
  obtain ⟨k', hk', he⟩ := X.warmed.alike.2.2 _ _ hk
  have hr' : k'.resolved[index]? = some (some (.string a)) := by
    rcases X.warmed.entry hk hk' index with h | ⟨h, -⟩
    · rw [h]; exact hr
    · rw [hr] at h; cases h
  intro target hrest
  subst hg
  jvm_step X.here [hexec, hdg, ldc_w.wp_string (e := e) (s := T) (f := g) X.here.top hk' (by rw [he]; exact hcf) hcp hr']
  exact hrest
/-- the stage of a text: t stands in the StringBuilder -/
def jStg (D : va_G) (cA : ClassId) (b d : Nat) (t : List Nat) (U : State) (H : Heap) : Prop := ∃ f : Nat → Int32, jB D cA b d t.length f U H ∧ ∀ j, j < t.length → f j = nI (t.getD j 0)
theorem mj_some (l : Launch) {u0 : State} {H0 : Heap} {x : Int32} {n : Nat} (h0 : 0 < n) (hn : n < 1000) : jM l jy_some jc_some 3 jr_some 0 0 0 0 u0 H0 [.int x, .int (nI n)] jNo (fun v H => v = some (.int (am_mo x (nI n))) ∧ H = H0) := by
  refine jM.of (by decide +kernel) (Nat.le_of_ble_eq_true rfl) ?_
  rintro p e s m below meth c ls ⟨hx, hb, hr, hml, hts, hown, hlk, hal, rfl⟩ hl
  have hl : lv_has ls 3 [(0, .int x), (1, .int (nI n))] := hl
  refine lv_iload_n hx hb dj_some_0 rfl (lv_at hl 0 rfl) ?_
  refine lv_iload_n hx hb dj_some_1 rfl (lv_at hl 1 rfl) ?_
  refine lv_irem hx hb dj_some_2 (nI_ne0 h0 (by omega)) ?_
  refine lv_istore_n (lv' := [(2, .int (x - x / nI n * nI n)), (0, .int x), (1, .int (nI n))]) hx hb dj_some_3 rfl hl (by decide) rfl (fun ls hl => ?_)
  refine lv_iload_n hx hb dj_some_4 rfl (lv_at hl 0 rfl) ?_
  refine lv_if_ge (tgt := 14) hx hb dj_some_5 (by decide) (fun q => ?_) (fun q => ?_)
  · refine lv_iload_n hx hb dj_some_14 rfl (lv_at hl 0 rfl) ?_
    exact jret_i hx hb hr rfl hlk ⟨by unfold am_mo; rw [if_neg (Int32.not_lt.mpr q)], rfl⟩ j_nil (Nat.le_refl _) (Nat.le_refl _) dj_some_15
  · refine lv_iload_n hx hb dj_some_8 rfl (lv_at hl 0 rfl) ?_
    refine lv_iload_n hx hb dj_some_9 rfl (lv_at hl 2 rfl) ?_
    refine lv_iadd hx hb dj_some_10 ?_
    refine lv_goto (tgt := 15) hx hb dj_some_11 (by decide) ?_
    exact jret_i hx hb hr rfl hlk ⟨by unfold am_mo; rw [if_pos (Int32.not_le.mp q)], rfl⟩ j_nil (Nat.le_refl _) (Nat.le_refl _) dj_some_15
section JG
variable {p : Program} {l : Launch} {e : Env} {R : Room} {s : State} {m : MethodId} {args : Array Value} {below : List Frame} {meth : Method} {c : Code} {H : Heap} {locs : List Loc} {cells slots : Nat} {Q : State → Prop} {pc : Nat} {ls : Array Slot} {cc : ByteArray} {rest : List Value} {D : va_G} {cA : ClassId} {b d : Nat} {t : List Nat}
theorem j_ldcw {own tx : String} {index q : Nat} (hexec : p.tables.exec = Jvm.exec) (hb : c.code = cc) (hown : s.vm.findClass own = some m.cls) (hZ : vk_R own index tx q s) (hdg : decode cc pc = .ok (.ldc_w index, 3))
    (k : W p l e R s m args below meth c H locs cells slots Q (F0 m (pc + 3) ls (.ref q :: rest))) : W p l e R s m args below meth c H locs cells slots Q (F0 m pc ls rest) := by
  intro T hT X
  obtain ⟨t, a1, b1⟩ := k T hT X
  exact ⟨t, j_ldcw0 X hexec hown (text := tx) (a := q) hZ.1 hZ.2 (g := F0 m pc ls rest) rfl (by rw [hb]; exact hdg) t a1, b1⟩
theorem jg_str {a z : Nat} {w : List Nat} (hx : p.tables.exec = Jvm.exec) (hb : c.code = cc) (hml : c.maxLocals = ls.size) (hown : s.vm.findClass "BellTelegraphLaw" = some m.cls) (hts : ∀ w ∈ j_W, w.before args s = true)
    (hg : jStg D cA b d t s H) (hs : jStr a z w.length (fun j => nI (w.getD j 0)) (jA b d) s H) (h16 : t.length + w.length ≤ 16) (h128 : ∀ j, j < w.length → w.getD j 0 < 128)
    (hfr : 5 ≤ R.frames) (hlo : 113 ≤ R.locals) (hf : cells ≤ R.cells ∧ slots ≤ R.slots) (hW : (rest.map fun v => v.category).sum ≤ 8) (hdg : decode cc pc = .ok (.invokevirtual 243, 3))
    (kk : ∀ (H1 : Heap) (L : List Loc), jStg D cA b d (t ++ w) s H1 → va_S (jA b d) H H1 [] → (∀ q ∈ L, jA b d q.base) → W p l e R s m args below meth c H1 (locs ++ L) cells slots Q (F0 m (pc + 3) ls (.ref b :: rest))) :
    W p l e R s m args below meth c H locs cells slots Q (F0 m pc ls (.ref a :: .ref b :: rest)) := by
  obtain ⟨f, hB, ht⟩ := hg
  obtain ⟨cb, g5, g6, g7, -⟩ := hB.cell
  refine jV (C := "java/lang/StringBuilder") (al := [.ref a]) (rest := rest) (k := 1) (ix := 243) (own := "BellTelegraphLaw") (mj_bas l (u0 := s) (H0 := H) (t := fun j => w.getD j 0) hB hs h16 h128) hx hb hml hown hts (hts _ j_w1185) j_w1186 j_w29 j_w1188 j_w1187 (by decide) (by decide +kernel) rfl g5 g6 g7 hfr hlo ⟨hf.1, hf.2⟩ hW hdg ?_
  rintro v H1 L ⟨rfl, h1, h2⟩ hL
  refine kk H1 L ⟨va_cpy (fun j => nI (w.getD j 0)) f 0 t.length w.length, ?_, fun j hj => ?_⟩ h2 hL
  · rw [List.length_append]
    exact hB.to h1 h2
  · rw [List.length_append] at hj
    by_cases hj2 : j < t.length
    · rw [pk_cpy_out (Or.inl hj2), ht j hj2, List.getD_eq_getElem?_getD, List.getD_eq_getElem?_getD, List.getElem?_append_left hj2]
    · rw [pk_cpy_in (Nat.le_of_not_lt hj2) (by omega), List.getD_eq_getElem?_getD, List.getD_eq_getElem?_getD, List.getElem?_append_right (Nat.le_of_not_lt hj2), Nat.zero_add]
theorem jg_int {q1 q2 v : Nat} (hx : p.tables.exec = Jvm.exec) (hb : c.code = cc) (hml : c.maxLocals = ls.size) (hown : s.vm.findClass "BellTelegraphLaw" = some m.cls) (hts : ∀ w ∈ j_W, w.before args s = true)
    (hg : jStg D cA b d t s H) (hT : jTb q1 q2 (jA b d) s H) (hv : v < 100) (h16 : t.length + jdg v ≤ 16)
    (hfr : 5 ≤ R.frames) (hlo : 113 ≤ R.locals) (hf : cells ≤ R.cells ∧ slots ≤ R.slots) (hW : (rest.map fun v => v.category).sum ≤ 8) (hdg : decode cc pc = .ok (.invokevirtual 246, 3))
    (kk : ∀ (H1 : Heap) (L : List Loc), jStg D cA b d (t ++ am_d10 v) s H1 → va_S (jA b d) H H1 [] → (∀ q ∈ L, jA b d q.base) → W p l e R s m args below meth c H1 (locs ++ L) cells slots Q (F0 m (pc + 3) ls (.ref b :: rest))) :
    W p l e R s m args below meth c H locs cells slots Q (F0 m pc ls (.int (nI v) :: .ref b :: rest)) := by
  obtain ⟨f, hB, ht⟩ := hg
  obtain ⟨cb, g5, g6, g7, -⟩ := hB.cell
  refine jV (C := "java/lang/StringBuilder") (al := [.int (nI v)]) (rest := rest) (k := 1) (ix := 246) (own := "BellTelegraphLaw") (mj_bai l (u0 := s) (H0 := H) hB hT hv h16) hx hb hml hown hts (hts _ j_w1284) j_w1285 j_w29 j_w1287 j_w1286 (by decide) (by decide +kernel) rfl g5 g6 g7 (by omega) (by omega) ⟨hf.1, hf.2⟩ hW hdg ?_
  rintro r H1 L ⟨rfl, h1, h2⟩ hL
  refine kk H1 L ⟨jdf f t.length v, ?_, fun j hj => ?_⟩ h2 hL
  · have e : (t ++ am_d10 v).length = t.length + jdg v := by
      rw [List.length_append]
      unfold am_d10 jdg
      split <;> rfl
    rw [e]
    exact hB.to h1 h2
  · by_cases h10 : v < 10
    · have e1 : am_d10 v = [48 + v] := if_pos h10
      have e2 : jdf f t.length v = upd f t.length (nI (48 + v)) := if_pos h10
      rw [e1] at hj ⊢
      rw [e2]
      rw [List.length_append] at hj
      have hj : j < t.length + 1 := hj
      by_cases hj2 : j < t.length
      · rw [pk_un (Nat.ne_of_lt hj2), ht j hj2, List.getD_eq_getElem?_getD, List.getD_eq_getElem?_getD, List.getElem?_append_left hj2]
      · obtain rfl : j = t.length := by omega
        rw [pk_us, List.getD_eq_getElem?_getD, List.getElem?_append_right (Nat.le_refl _), Nat.sub_self]
        rfl
    · have e1 : am_d10 v = [48 + v / 10, 48 + v % 10] := if_neg h10
      have e2 : jdf f t.length v = upd (upd f (t.length + 1) (nI (48 + v % 10))) t.length (nI (48 + v / 10)) := if_neg h10
      rw [e1] at hj ⊢
      rw [e2]
      rw [List.length_append] at hj
      have hj : j < t.length + 2 := hj
      by_cases hj2 : j < t.length
      · rw [pk_un (Nat.ne_of_lt hj2), pk_un (by omega), ht j hj2, List.getD_eq_getElem?_getD, List.getD_eq_getElem?_getD, List.getElem?_append_left hj2]
      · have hj3 : j = t.length ∨ j = t.length + 1 := by omega
        rcases hj3 with hj3 | hj3
        · rw [hj3, pk_us, List.getD_eq_getElem?_getD, List.getElem?_append_right (Nat.le_refl _), Nat.sub_self]
          rfl
        · rw [hj3, pk_un (by omega), pk_us, List.getD_eq_getElem?_getD, List.getElem?_append_right (show t.length ≤ t.length + 1 by omega), Nat.add_sub_cancel_left]
          rfl
end JG
section JCat
variable {p : Program} {l : Launch} {e : Env} {R : Room} {s : State} {m : MethodId} {args : Array Value} {below : List Frame} {meth : Method} {c : Code} {Q : State → Prop} {G : am_Γ} {z : Nat} {X0 : am_X} {pc : Nat} {ls : am_S} {st : List am_V} {M : am_M} {X : am_X} {H Hs : Heap} {locs : List Loc} {cells slots : Nat} {lsc : Array Slot} {rest : List Value} {D : va_G} {cA : ClassId} {b d : Nat} {t : List Nat}
theorem ja_128 : ∀ k, k < 9 → ∀ j, j < (am_lit k).length → (am_lit k).getD j 0 < 128 := by decide +kernel
theorem ja_str {k : Nat} (C : am_Cx p l s m args meth c G z) (hnc : am_Nc G s) (hS : va_S (am_A G) s.heap H locs) (hk : k < 9) (hb : am_b0 G ≤ b) (hd : am_b0 G ≤ d) : ∃ a z' : Nat, vk_R RL (am_six k) (am_stx k) a s ∧ jStr a z' (am_lit k).length (fun j => nI ((am_lit k).getD j 0)) (jA b d) s H := by
  obtain ⟨hx, hb', hml, hown, hts, hK, -⟩ := C
  obtain ⟨a, z', h1, ⟨h2, h3, -⟩, h4⟩ := hnc.2.1 k hk
  have hlt := h4.lt
  have hJ := hnc.2.2.1.kept hS.2.1
  have h5 := h4.kept (hS.2.1 a hlt.1 (by show ¬ am_b0 G ≤ a; omega)) (hS.2.1 z' hlt.2 (by show ¬ am_b0 G ≤ z'; omega))
  refine ⟨a, z', h1, j_of_so (j_hts hts hnc.2.2.2) hK (hJ.1.narrow (B := jA b d) (fun q h => ?_)) h5 (fun h => ?_) (fun h => ?_)⟩
  · show am_b0 G ≤ q
    rcases h with h | h <;> omega
  · rcases h with h | h <;> omega
  · rcases h with h | h <;> omega
theorem ja_tab (hnc : am_Nc G s) (hS : va_S (am_A G) s.heap H locs) (hb : am_b0 G ≤ b) (hd : am_b0 G ≤ d) : ∃ q1 q2 : Nat, jTb q1 q2 (jA b d) s H := by
  have hJ := hnc.2.2.1.kept hS.2.1
  obtain ⟨q1, t1, t2⟩ := hJ.2.1 0 (by decide)
  obtain ⟨q2, t3, t4⟩ := hJ.2.1 1 (by decide)
  have hn : ∀ q, jA b d q → am_A0 G q := fun q h => by
    show am_b0 G ≤ q
    rcases h with h | h <;> omega
  exact ⟨q1, q2, ⟨t1.narrow hn, t2.narrow hn⟩, t3.narrow hn, t4.narrow hn⟩
theorem ja_S {H1 : Heap} {L : List Loc} (hS : va_S (am_A G) s.heap H locs) (hF : va_S (jNw Hs.size) Hs H []) (hz : am_b0 G ≤ Hs.size) (hb : Hs.size ≤ b) (hd : Hs.size ≤ d) (g2 : va_S (jA b d) H H1 []) (g3 : ∀ q ∈ L, jA b d q.base) : va_S (am_A G) s.heap H1 (locs ++ L) ∧ va_S (jNw Hs.size) Hs H1 [] := by
  have hn : ∀ q, jA b d q → Hs.size ≤ q := fun q h => by rcases h with h | h <;> omega
  refine ⟨⟨Nat.le_trans hS.1 g2.1, fun q q1 q2 => (g2.2.1 q (Nat.lt_of_lt_of_le q1 hS.1) (fun h => q2 (Nat.le_trans hz (hn q h)))).trans (hS.2.1 q q1 q2), fun q hq => ?_⟩, Nat.le_trans hF.1 g2.1, fun q q1 q2 => (g2.2.1 q (Nat.lt_of_lt_of_le q1 hF.1) (fun h => q2 (hn q h))).trans (hF.2.1 q q1 q2), fun q hq => absurd hq List.not_mem_nil⟩
  rcases List.mem_append.mp hq with h | h
  · exact hS.2.2 q h
  · exact Nat.le_trans hz (hn _ (g3 q h))
theorem ja_app {k pc2 : Nat} (C : am_Cx p l s m args meth c G am_chz) (hnc : am_Nc G s) (hml : c.maxLocals = lsc.size) (hg : jStg D cA b d t s H) (hS : va_S (am_A G) s.heap H locs) (hF : va_S (jNw Hs.size) Hs H []) (hz : am_b0 G ≤ Hs.size) (hb : Hs.size ≤ b) (hd : Hs.size ≤ d) (hk : k < 9) (h16 : t.length + (am_lit k).length ≤ 16)
    (hfr : 5 ≤ R.frames) (hlo : 113 ≤ R.locals) (hf : cells ≤ R.cells ∧ slots ≤ R.slots) (hW : (rest.map fun v => v.category).sum ≤ 8)
    (hld : ∀ a, vk_R RL (am_six k) (am_stx k) a s → W p l e R s m args below meth c H locs cells slots Q (F0 m pc2 lsc (.ref a :: .ref b :: rest)) → W p l e R s m args below meth c H locs cells slots Q (F0 m pc lsc (.ref b :: rest)))
    (dg : decode (am_by am_chz) pc2 = .ok (.invokevirtual 243, 3))
    (kk : ∀ (H1 : Heap) (L1 : List Loc), jStg D cA b d (t ++ am_lit k) s H1 → va_S (am_A G) s.heap H1 L1 → va_S (jNw Hs.size) Hs H1 [] → W p l e R s m args below meth c H1 L1 cells slots Q (F0 m (pc2 + 3) lsc (.ref b :: rest))) :
    W p l e R s m args below meth c H locs cells slots Q (F0 m pc lsc (.ref b :: rest)) := by
  obtain ⟨a, z', h1, h2⟩ := ja_str C hnc hS hk (Nat.le_trans hz hb) (Nat.le_trans hz hd)
  obtain ⟨hx, hbb, hml', hown, hts, -⟩ := C
  refine hld a h1 (jg_str hx hbb hml hown (j_hts hts hnc.2.2.2) hg h2 h16 (ja_128 k hk) hfr hlo hf hW dg (fun H1 L g1 g2 g3 => ?_))
  obtain ⟨k1, k2⟩ := ja_S hS hF hz hb hd g2 g3
  exact kk H1 (locs ++ L) g1 k1 k2
theorem ja_num {n pc2 : Nat} {y : Int32} (C : am_Cx p l s m args meth c G am_chz) (hnc : am_Nc G s) (hml : c.maxLocals = lsc.size) (hg : jStg D cA b d t s H) (hS : va_S (am_A G) s.heap H locs) (hF : va_S (jNw Hs.size) Hs H []) (hz : am_b0 G ≤ Hs.size) (hb : Hs.size ≤ b) (hd : Hs.size ≤ d) (h0 : 0 < n) (hn : n < 100) (h16 : t.length + (if n ≤ 10 then 1 else 2) ≤ 16)
    (hfr : 5 ≤ R.frames) (hlo : 113 ≤ R.locals) (hf : cells ≤ R.cells ∧ slots ≤ R.slots) (hW : ((Value.ref b :: rest).map fun v => v.category).sum ≤ 8)
    (dg1 : decode (am_by am_chz) pc = .ok (.invokestatic 157, 3)) (e2 : pc + 3 = pc2) (dg2 : decode (am_by am_chz) pc2 = .ok (.invokevirtual 246, 3))
    (kk : ∀ (H1 : Heap) (L1 : List Loc), jStg D cA b d (t ++ am_d10 (am_mo y (nI n)).toNatClampNeg) s H1 → va_S (am_A G) s.heap H1 L1 → va_S (jNw Hs.size) Hs H1 [] → W p l e R s m args below meth c H1 L1 cells slots Q (F0 m (pc2 + 3) lsc (.ref b :: rest))) :
    W p l e R s m args below meth c H locs cells slots Q (F0 m pc lsc (.int (nI n) :: .int y :: .ref b :: rest)) := by
  obtain ⟨q1, q2, hT⟩ := ja_tab hnc hS (Nat.le_trans hz hb) (Nat.le_trans hz hd)
  obtain ⟨hx, hbb, hml', hown, hts, -⟩ := C
  obtain ⟨v, hv, ev⟩ := rem_b (x := y) h0 (show n < 1000 by omega)
  have em : am_mo y (nI n) = nI v := ev
  rw [em, nI_clamp (by omega)] at kk
  refine jS (av := [.int y, .int (nI n)]) (rest := .ref b :: rest) (k := 2) (ix := 157) (own := "BellTelegraphLaw") (mj_some l (u0 := s) (H0 := H) (x := y) h0 (show n < 1000 by omega)) hx hbb hml hown (j_hts hts hnc.2.2.2) (j_hts hts hnc.2.2.2 _ j_w363) j_w364 j_w0 j_w365 (by decide) (by decide +kernel) rfl (by omega) (by omega) ⟨hf.1, hf.2⟩ hW dg1 ?_
  rintro r H1 L ⟨rfl, rfl⟩ hL
  rw [em, e2]
  have hW2 : (rest.map fun v => v.category).sum ≤ 8 := by
    have h9 : (Value.ref b).category + (rest.map fun v => v.category).sum ≤ 8 := hW
    omega
  refine jg_int hx hbb hml hown (j_hts hts hnc.2.2.2) hg hT (show v < 100 by omega) ?_ hfr hlo hf hW2 dg2 (fun H2 L2 g1 g2 g3 => ?_)
  · have h7 : jdg v ≤ if n ≤ 10 then 1 else 2 := by
      unfold jdg
      split <;> split <;> omega
    omega
  · obtain ⟨k1, k2⟩ := ja_S (j_S_no hS hL) hF hz hb hd g2 g3
    exact kk H2 _ g1 k1 k2
/-- the classes of a StringBuilder and of a String, as the tables number them -/
theorem ja_K (C : am_Cx p l s m args meth c G z) (hnc : am_Nc G s) : ∃ D : va_G, va_K D jcl [(G.2.2.2.1 3, .byte)] s ∧ D.1 1 = G.2.2.1.1 9 ∧ D.2 1 0 = G.2.2.1.2 9 0 ∧ D.2 1 1 = G.2.2.1.2 9 1 := by
  obtain ⟨hx, hb', hml, hown, hts, hK, -⟩ := C
  have hj := j_hts hts hnc.2.2.2
  obtain ⟨c0, i0, k0⟩ := u_known (T := TJ4) (N := 4) hj j_bw (hj _ j_w1155)
  obtain ⟨c1, i1, k1⟩ := u_known (T := TJ0) (N := 4) hj j_tw (hj _ j_w659)
  obtain ⟨p1, p2, -⟩ := hK.1 9 _ (am_cl_at 9 (by decide))
  obtain ⟨cf3, kf3, fi3, fd3, y1, y2⟩ := p1 0 (by decide)
  obtain ⟨cf4, kf4, fi4, fd4, z1, z2⟩ := p1 1 (by decide)
  obtain ⟨cf5, kf5, fi5, fd5, g1, g2⟩ := k1.1 0 (by decide)
  obtain ⟨cf6, kf6, fi6, fd6, w1, w2⟩ := k1.1 1 (by decide)
  refine ⟨(fun c => if c = 0 then c0 else c1, fun c => if c = 0 then i0 else i1), ⟨fun c q hq => ?_, fun k q hq => ?_⟩, ?_, ?_, ?_⟩
  · match c, hq with
    | 0, hq => cases hq; exact k0
    | 1, hq => cases hq; exact k1
    | k + 2, hq => simp at hq
  · match k, hq with
    | 0, hq => cases hq; exact hK.2 3 _ rfl
    | k + 1, hq => simp at hq
  · exact Option.some.inj (k1.2.1.symm.trans p2)
  · cases y1.symm.trans g1
    exact g2.symm.trans y2
  · cases z1.symm.trans w1
    exact w2.symm.trans z2
/-- the String that came out, in the words of the relation -/
theorem ja_so {a x n : Nat} {f' : Nat → Int32} {T : List Nat} (e1 : D.1 1 = G.2.2.1.1 9) (e2 : D.2 1 0 = G.2.2.1.2 9 0) (e3 : D.2 1 1 = G.2.2.1.2 9 1) (hP : va_P D jcl [(a, .inr (1, [.ref x, .int 0, .int 0, .int 0])), (x, .inl (G.2.2.2.1 3, n, .inl f'))] H) (hn : T.length = n) (hf : ∀ j, j < n → f' j = nI (T.getD j 0)) : am_so G a x T H := by
  obtain ⟨r, h1, cell, q1, q2, q3, q4⟩ := hP 0 _ rfl
  have hr : r = (RJ0, TJ0, 4) := (Option.some.inj h1).symm
  subst hr
  have h2 : H[x]? = some (arrV (G.2.2.2.1 3) n (fun j => .int (f' j))) := hP 1 _ rfl
  refine ⟨cell, arrV (G.2.2.2.1 3) n (fun j => .int (f' j)), ⟨q1, by rw [← e1]; exact q2, (by rw [q3]; intro h; cases h), (by rw [q3]; rfl), by rw [← e2]; exact q4 0 (by decide), by rw [← e3]; exact q4 1 (by decide)⟩, h2, rfl, (fun h => by cases h), rfl, by rw [arrV_size, hn], fun j hj => ?_⟩
  rw [arrV_read _ _ (by omega), hf j (by omega)]
end JCat
end
section
/-! WHAT GOES BESIDE: the call that takes the String, and the two rows that end in it -/
theorem j_w1154 : Jvm.Cond.classLink "BellTelegraphLaw" (238 : Nat) "java/lang/StringBuilder" ∈ j_W := j_at_in (i := 1163) (by decide +kernel)
theorem j_w1156 : Jvm.Cond.methodLink "BellTelegraphLaw" (240 : Nat) ({ cls := "java/lang/StringBuilder", name := "<init>", desc := "()V" } : Jvm.MethodName) ∈ j_W := j_at_in (i := 1165) (by decide +kernel)
theorem j_w1157 : Jvm.Cond.instanceMethod ({ cls := "java/lang/StringBuilder", name := "<init>", desc := "()V" } : Jvm.MethodName) ∈ j_W := j_at_in (i := 1166) (by decide +kernel)
theorem j_w1158 : Jvm.Cond.code ({ cls := "java/lang/StringBuilder", name := "<init>", desc := "()V" } : Jvm.MethodName) prog_31_method_1_code (1 : Nat) (Option.none : Option Jvm.ClassFile.FieldType) ∈ j_W := j_at_in (i := 1167) (by decide +kernel)
theorem j_w1311 : Jvm.Cond.methodLink "BellTelegraphLaw" (253 : Nat) ({ cls := "java/lang/StringBuilder", name := "toString", desc := "()Ljava/lang/String;" } : Jvm.MethodName) ∈ j_W := j_at_in (i := 1320) (by decide +kernel)
theorem j_w1312 : Jvm.Cond.instanceMethod ({ cls := "java/lang/StringBuilder", name := "toString", desc := "()Ljava/lang/String;" } : Jvm.MethodName) ∈ j_W := j_at_in (i := 1321) (by decide +kernel)
theorem j_w1314 : Jvm.Cond.code ({ cls := "java/lang/StringBuilder", name := "toString", desc := "()Ljava/lang/String;" } : Jvm.MethodName) prog_31_method_42_code (1 : Nat) (Option.some (Jvm.ClassFile.FieldType.object "java/lang/String")) ∈ j_W := j_at_in (i := 1323) (by decide +kernel)
theorem j_w1313 : Jvm.Cond.selects "java/lang/StringBuilder" ({ cls := "java/lang/StringBuilder", name := "toString", desc := "()Ljava/lang/String;" } : Jvm.MethodName) ({ cls := "java/lang/StringBuilder", name := "toString", desc := "()Ljava/lang/String;" } : Jvm.MethodName) ∈ j_W := j_at_in (i := 1322) (by decide +kernel)
theorem dch_446 : decode (am_by am_chz) 446 = .ok (.invokestatic 263, 3) := by decide +kernel
theorem dch_324 : decode (am_by am_chz) 324 = .ok (.new 238, 3) := by decide +kernel
theorem dch_327 : decode (am_by am_chz) 327 = .ok (.dup, 1) := by decide +kernel
theorem dch_328 : decode (am_by am_chz) 328 = .ok (.invokespecial 240, 3) := by decide +kernel
theorem dch_331 : decode (am_by am_chz) 331 = .ok (.ldc 241, 2) := by decide +kernel
theorem dch_333 : decode (am_by am_chz) 333 = .ok (.invokevirtual 243, 3) := by decide +kernel
theorem dch_336 : decode (am_by am_chz) 336 = .ok (.iload_n 1, 1) := by decide +kernel
theorem dch_337 : decode (am_by am_chz) 337 = .ok (.iconst 3, 1) := by decide +kernel
theorem dch_338 : decode (am_by am_chz) 338 = .ok (.ishr, 1) := by decide +kernel
theorem dch_339 : decode (am_by am_chz) 339 = .ok (.bipush 12, 2) := by decide +kernel
theorem dch_341 : decode (am_by am_chz) 341 = .ok (.invokestatic 157, 3) := by decide +kernel
theorem dch_344 : decode (am_by am_chz) 344 = .ok (.invokevirtual 246, 3) := by decide +kernel
theorem dch_347 : decode (am_by am_chz) 347 = .ok (.ldc 249, 2) := by decide +kernel
theorem dch_349 : decode (am_by am_chz) 349 = .ok (.invokevirtual 243, 3) := by decide +kernel
theorem dch_352 : decode (am_by am_chz) 352 = .ok (.iload_n 1, 1) := by decide +kernel
theorem dch_353 : decode (am_by am_chz) 353 = .ok (.iconst 5, 1) := by decide +kernel
theorem dch_354 : decode (am_by am_chz) 354 = .ok (.ishr, 1) := by decide +kernel
theorem dch_355 : decode (am_by am_chz) 355 = .ok (.bipush 7, 2) := by decide +kernel
theorem dch_357 : decode (am_by am_chz) 357 = .ok (.invokestatic 157, 3) := by decide +kernel
theorem dch_360 : decode (am_by am_chz) 360 = .ok (.invokevirtual 246, 3) := by decide +kernel
theorem dch_363 : decode (am_by am_chz) 363 = .ok (.ldc 251, 2) := by decide +kernel
theorem dch_365 : decode (am_by am_chz) 365 = .ok (.invokevirtual 243, 3) := by decide +kernel
theorem dch_368 : decode (am_by am_chz) 368 = .ok (.iload_n 1, 1) := by decide +kernel
theorem dch_369 : decode (am_by am_chz) 369 = .ok (.bipush 7, 2) := by decide +kernel
theorem dch_371 : decode (am_by am_chz) 371 = .ok (.ishr, 1) := by decide +kernel
theorem dch_372 : decode (am_by am_chz) 372 = .ok (.bipush 10, 2) := by decide +kernel
theorem dch_374 : decode (am_by am_chz) 374 = .ok (.invokestatic 157, 3) := by decide +kernel
theorem dch_377 : decode (am_by am_chz) 377 = .ok (.invokevirtual 246, 3) := by decide +kernel
theorem dch_380 : decode (am_by am_chz) 380 = .ok (.invokevirtual 253, 3) := by decide +kernel
theorem dch_383 : decode (am_by am_chz) 383 = .ok (.goto 63, 3) := by decide +kernel
theorem dch_386 : decode (am_by am_chz) 386 = .ok (.new 238, 3) := by decide +kernel
theorem dch_389 : decode (am_by am_chz) 389 = .ok (.dup, 1) := by decide +kernel
theorem dch_390 : decode (am_by am_chz) 390 = .ok (.invokespecial 240, 3) := by decide +kernel
theorem dch_393 : decode (am_by am_chz) 393 = .ok (.ldc_w 257, 3) := by decide +kernel
theorem dch_396 : decode (am_by am_chz) 396 = .ok (.invokevirtual 243, 3) := by decide +kernel
theorem dch_399 : decode (am_by am_chz) 399 = .ok (.iload_n 1, 1) := by decide +kernel
theorem dch_400 : decode (am_by am_chz) 400 = .ok (.iconst 3, 1) := by decide +kernel
theorem dch_401 : decode (am_by am_chz) 401 = .ok (.ishr, 1) := by decide +kernel
theorem dch_402 : decode (am_by am_chz) 402 = .ok (.bipush 6, 2) := by decide +kernel
theorem dch_404 : decode (am_by am_chz) 404 = .ok (.invokestatic 157, 3) := by decide +kernel
theorem dch_407 : decode (am_by am_chz) 407 = .ok (.invokevirtual 246, 3) := by decide +kernel
theorem dch_410 : decode (am_by am_chz) 410 = .ok (.ldc_w 259, 3) := by decide +kernel
theorem dch_413 : decode (am_by am_chz) 413 = .ok (.invokevirtual 243, 3) := by decide +kernel
theorem dch_416 : decode (am_by am_chz) 416 = .ok (.iload_n 1, 1) := by decide +kernel
theorem dch_417 : decode (am_by am_chz) 417 = .ok (.iconst 5, 1) := by decide +kernel
theorem dch_418 : decode (am_by am_chz) 418 = .ok (.ishr, 1) := by decide +kernel
theorem dch_419 : decode (am_by am_chz) 419 = .ok (.bipush 26, 2) := by decide +kernel
theorem dch_421 : decode (am_by am_chz) 421 = .ok (.invokestatic 157, 3) := by decide +kernel
theorem dch_424 : decode (am_by am_chz) 424 = .ok (.invokevirtual 246, 3) := by decide +kernel
theorem dch_427 : decode (am_by am_chz) 427 = .ok (.ldc_w 261, 3) := by decide +kernel
theorem dch_430 : decode (am_by am_chz) 430 = .ok (.invokevirtual 243, 3) := by decide +kernel
theorem dch_433 : decode (am_by am_chz) 433 = .ok (.iload_n 1, 1) := by decide +kernel
theorem dch_434 : decode (am_by am_chz) 434 = .ok (.iconst 4, 1) := by decide +kernel
theorem dch_435 : decode (am_by am_chz) 435 = .ok (.ishr, 1) := by decide +kernel
theorem dch_436 : decode (am_by am_chz) 436 = .ok (.iconst 4, 1) := by decide +kernel
theorem dch_437 : decode (am_by am_chz) 437 = .ok (.invokestatic 157, 3) := by decide +kernel
theorem dch_440 : decode (am_by am_chz) 440 = .ok (.invokevirtual 246, 3) := by decide +kernel
theorem dch_443 : decode (am_by am_chz) 443 = .ok (.invokevirtual 253, 3) := by decide +kernel
section JCall
variable {p : Program} {l : Launch} {e : Env} {R : Room} {s : State} {m : MethodId} {args : Array Value} {below : List Frame} {meth : Method} {c : Code} {Q : State → Prop} {G : am_Γ} {z : Nat} {X0 : am_X} {pc : Nat} {ls : am_S} {st : List am_V} {M : am_M} {X : am_X} {H Hs : Heap} {locs : List Loc} {cells slots : Nat} {lsc : Array Slot} {D : va_G} {cA : ClassId} {b d : Nat} {t : List Nat}
theorem am_bs_i {α : Type} {w : α} {r : Option am_R} {n : Nat × Nat} {K : Nat → am_S → List am_V → am_M → am_X → Option α} (h : am_bs pc ls st r n K = some w) : ∃ v M X, r = some (.inl (some (.inl v)), M, X) ∧ K pc ls (.inl v :: st) M (X.1, X.2.1, X.2.2.1 + n.1, X.2.2.2.1 + n.2, X.2.2.2.2.1, none) = some w := by
  unfold am_bs at h
  split at h
  · exact ⟨_, _, _, rfl, h⟩
  · cases h
theorem ja_map {x : Nat × Nat × Nat × Nat} {L : List am_V} (h : am_n15 L = true) : L.map (am_tv (am_gx G x)) = L.map (am_tv G) := by
  unfold am_n15 at h
  rw [List.all_eq_true] at h
  refine List.map_congr_left fun v hv => ?_
  have h1 := h v hv
  cases v with
  | inl w => rfl
  | inr o =>
    show am_rv (am_gx G x) o = am_rv G o
    refine am_rv_gx (fun u hu => ?_)
    subst hu
    simp only [Bool.and_eq_true, bne_iff_ne, ne_eq] at h1
    exact h1
theorem ja_call {d0 ix y a x : Nat} {vs0 rest : List am_V} {v : Value} {M' : am_M} {X' : am_X} (C : am_Cx p l s m args meth c G z) (hnc : am_Nc G s) (hcs : am_Cs l d0) (hfr : d0 + 27 ≤ R.frames) (hlo : 31 * d0 + 751 ≤ R.locals)
    (hm : am_ml (am_own z) ix = some (1, y)) (dg : decode (am_by z) pc = .ok (.invokestatic ix, 3)) (hlen : vs0.length + 1 = am_na y) (h4 : rest.length ≤ 4) (hone : ∀ v ∈ vs0, am_one v) (n1 : am_n15 vs0 = true) (n2 : am_n15 rest = true)
    (hcall : am_ev d0 y (vs0.reverse ++ [.inr (some (50, 0, 0))]) M (am_hx X t) = some (.inl (some (.inl v)), M', X')) (hH : am_HR G M X H) (hS : va_S (am_A G) s.heap H locs)
    (hso : am_so G a x t H) (hfa : am_fa G a ∧ am_fa G x ∧ a ≠ x) (h128 : ∀ c ∈ t, c < 128) (h60 : t.length ≤ 60) (hsz : lsc.size = am_mL z) (hf : cells + (X'.2.2.1 - X.2.2.1) ≤ R.cells ∧ slots + (X'.2.2.2.1 - X.2.2.2.1) ≤ R.slots)
    (kk : ∀ (H1 : Heap) (L1 : List Loc), (∀ k1 k2 : Nat, am_HR G M' (X'.1, X'.2.1, k1, k2, X'.2.2.2.2.1, none) H1) → va_S (am_A G) s.heap H1 L1 → W p l e R s m args below meth c H1 L1 (cells + (X'.2.2.1 - X.2.2.1)) (slots + (X'.2.2.2.1 - X.2.2.2.1)) Q (F0 m (pc + 3) lsc (v :: rest.map (am_tv G)))) :
    W p l e R s m args below meth c H locs cells slots Q (F0 m pc lsc (.ref a :: (vs0 ++ rest).map (am_tv G))) := by
  have C' : am_Cx p l s m args meth c (am_gx G (am_wa G, a, x, am_b0 G)) z := C
  have hnc' : am_Nc (am_gx G (am_wa G, a, x, am_b0 G)) s := hnc
  have hS' : va_S (am_A (am_gx G (am_wa G, a, x, am_b0 G))) s.heap H locs := hS
  have hHR : am_HR (am_gx G (am_wa G, a, x, am_b0 G)) M (am_hx X t) H := hH.gx rfl rfl ⟨hH.2.2.2.1, hH.2.2.2.2.1, fun t' ht => by
    cases ht
    exact ⟨hfa, hso, h128, h60⟩⟩
  have hy := am_ml_lt hm (by omega)
  have hna : am_na y + (if am_ks y = 0 then 0 else 1) ≤ am_mL y := (am_z_facts hy).2.2.2.2.2.2.2.2.2
  have hlen1 : (.inr (some (50, 0, 0)) :: vs0 : List am_V).length = am_na y := hlen
  have hone1 : ∀ v ∈ (.inr (some (50, 0, 0)) :: vs0 : List am_V).reverse, am_one v := fun v hv => (List.mem_cons.mp (List.mem_reverse.mp hv)).elim (fun q => by rw [q]; exact Or.inr ⟨(50, 0, 0), rfl⟩) (hone v)
  have hlen2 : (.inr (some (50, 0, 0)) :: vs0 : List am_V).reverse.length ≤ am_mL y := by
    rw [List.length_reverse, hlen1]
    omega
  have hcall1 : am_ev d0 y (.inr (some (50, 0, 0)) :: vs0 : List am_V).reverse M (am_hx X t) = some (.inl (some (.inl v)), M', X') := by
    rw [List.reverse_cons]
    exact hcall
  have hrun := am_run_s (R := R) (e := e) (below := below) (locs := locs) (cells := cells) (slots := slots) (lsc := lsc) (vs := .inr (some (50, 0, 0)) :: vs0) (rest := rest) C' hnc' hm (Or.inl rfl) dg hlen1 h4 (hcs y hy _ _ _ _ hone1 hlen2 hcall1) hfr hlo hHR hS' hsz hf
  have e3 : am_tv (am_gx G (am_wa G, a, x, am_b0 G)) (.inr (some (50, 0, 0))) = .ref a := by
    show Value.ref (if (50 : Nat) = 0 then G.2.1 else if (50 : Nat) = 1 then am_wa G else if (50 : Nat) = 50 then a else G.1 + am_ad (50, 0, 0)) = .ref a
    rw [if_neg (by decide), if_neg (by decide), if_pos rfl]
  have e1 : (((.inr (some (50, 0, 0)) :: vs0) ++ rest : List am_V).map (am_tv (am_gx G (am_wa G, a, x, am_b0 G)))) = .ref a :: (vs0 ++ rest).map (am_tv G) := by
    rw [List.cons_append, List.map_cons, e3, List.map_append, List.map_append, ja_map n1, ja_map n2]
  have e2 : rest.map (am_tv (am_gx G (am_wa G, a, x, am_b0 G))) = rest.map (am_tv G) := ja_map n2
  rw [e1, e2] at hrun
  refine am_after_v hrun hS' rfl (fun H1 L1 hH1 hS1 => ?_)
  exact kk H1 L1 (fun k1 k2 => hH1.gx (x := (am_wa G, am_sa G, am_sb0 G, am_b0 G)) rfl rfl ⟨hH1.2.2.2.1, hH1.2.2.2.2.1, fun t' ht => by cases ht⟩) hS1
theorem am_kt_all : ∀ q ∈ am_kt_t, q.1 = 10 ∧ q.2.2 < 9 ∧ q.2.1 = am_six q.2.2 := by decide +kernel
theorem ja_lit : ∀ k, k < 9 → (∀ c ∈ am_lit k, c < 128) ∧ (am_lit k).length ≤ 60 := by decide +kernel
theorem am_s_ldcw {d ix : Nat} {w} (C : am_Cx p l s m args meth c G z) (hnc : am_Nc G s) (htab : am_hs z ≠ [] → c.exceptionTable.toList = tableOf (am_hh z)) (hcs : am_Cs l d) (hfr : d + 27 ≤ R.frames) (hlo : 31 * d + 751 ≤ R.locals) (hle : am_le X0 X) (hcd : am_cd z pc = some (.ldc_w ix)) (h : am_st (am_ev d) z (.ldc_w ix) pc ls st M X = some (.inl w)) (hrm : w.2.2.2.2.2.2.1 - X0.2.2.1 ≤ R.cells ∧ w.2.2.2.2.2.2.2.1 - X0.2.2.2.1 ≤ R.slots) (K : am_Sm p l e R s m args below meth c Q G z X0 w) : am_Sm p l e R s m args below meth c Q G z X0 (pc, ls, st, M, X) := by
  dsimp only [am_st, am_ex] at h
  have C' := C
  obtain ⟨hx, hb, hml, hown, hts, -⟩ := C'
  rcases am_o2_i h with ⟨v, hk, h⟩ | ⟨hk, h⟩
  · cases h
    intro H locs lsc hH hS hl
    obtain ⟨i, hi⟩ := am_al2_in am_kc_ok _ (am_look_in hk)
    exact lv_ldcw hx hb hown (hts _ (am_at_in hi)) (am_dg hcd rfl (by decide)) (K H locs lsc hH hS hl)
  · rcases am_o2_i h with ⟨k, hk, h⟩ | ⟨hk, h⟩
    · obtain ⟨e1, e2, e3⟩ := am_kt_all _ (am_look_in hk)
      dsimp only at e1 e2 e3
      unfold am_sc at h
      split at h
      · rename_i iy hcd2
        split at h
        · rename_i y hm
          obtain ⟨⟨hph, ht0, htr, hna⟩, h⟩ := am_if_i h
          obtain ⟨vs, rest, hlen, rfl, hone, h⟩ := am_popN_i h
          obtain ⟨h4, h⟩ := am_sm_i h
          obtain ⟨⟨n1, n2⟩, h⟩ := am_if_i h
          rw [List.append_nil] at h n1
          obtain ⟨v, M', X', hcall, h⟩ := am_bs_i h
          cases h
          subst e3
          have n3 : am_n15 vs = true := List.all_eq_true.mpr fun v hv => List.all_eq_true.mp n1 v (List.mem_reverse.mpr hv)
          obtain ⟨g1, g2⟩ := hle
          obtain ⟨g3, g4⟩ := am_ev_le _ _ _ _ _ _ hcall
          dsimp only [am_hx] at g3 g4
          dsimp only at hrm
          intro H locs lsc hH hS hl
          dsimp only at hH hl ⊢
          obtain ⟨sa, sb, hR0, ⟨b1, b2, b3⟩, hso⟩ := hnc.2.1 k e2
          have hlt := hso.lt
          have hso1 := hso.kept (hS.2.1 sa hlt.1 (by show ¬ am_b0 G ≤ sa; omega)) (hS.2.1 sb hlt.2 (by show ¬ am_b0 G ≤ sb; omega))
          have hown1 : s.vm.findClass RL = some m.cls := by
            have h9 := hown
            rw [e1] at h9
            exact h9
          have hb0 := C.b0
          refine j_ldcw hx hb hown1 hR0 (am_dg hcd rfl (by decide)) ?_
          refine ja_call C hnc hcs hfr hlo hm (am_dg hcd2 rfl (by decide)) (by omega) h4 hone n3 n2 hcall hH hS hso1 ⟨Or.inl (by omega), Or.inl (by omega), b3⟩ (ja_lit k e2).1 (ja_lit k e2).2 hl.1.1 (by omega) (fun H1 L1 hH1 hS1 => ?_)
          have k1 := K H1 L1 lsc (hH1 _ _) hS1 hl
          dsimp only at k1
          exact W.cs (by omega) (by omega) k1
        · cases h
      · cases h
    · cases h
theorem ja_len {x : Int32} (k n : Nat) : (am_da x k n).length ≤ 2 := by
  unfold am_da am_d10
  split <;> simp
theorem ja_da {x : Int32} {k n : Nat} (h0 : 0 < n) (hn : n < 30) : ∀ c ∈ am_da x k n, c < 128 := by
  intro c hc
  unfold am_da at hc
  have h1 := mo_lt (x := x >>> (nI k &&& 31)) h0 (show n < 1000 by omega)
  generalize (am_mo (x >>> (nI k &&& 31)) (nI n)).toNatClampNeg = v at hc h1
  unfold am_d10 at hc
  split at hc
  · simp only [List.mem_cons, List.not_mem_nil, or_false] at hc
    omega
  · simp only [List.mem_cons, List.not_mem_nil, or_false] at hc
    omega
theorem ja_tx1 {x : Int32} : (∀ c ∈ am_tx 324 x, c < 128) ∧ (am_tx 324 x).length < 16 := by
  have e : am_tx 324 x = am_lit 0 ++ am_da x 3 12 ++ am_lit 1 ++ am_da x 5 7 ++ am_lit 2 ++ am_da x 7 10 := if_pos rfl
  rw [e]
  refine ⟨fun c hc => ?_, ?_⟩
  · simp only [List.mem_append] at hc
    rcases hc with ((((h | h) | h) | h) | h) | h
    · exact (ja_lit 0 (by decide)).1 c h
    · exact ja_da (by decide) (by decide) c h
    · exact (ja_lit 1 (by decide)).1 c h
    · exact ja_da (by decide) (by decide) c h
    · exact (ja_lit 2 (by decide)).1 c h
    · exact ja_da (by decide) (by decide) c h
  · simp only [List.length_append]
    have h1 := ja_len (x := x) 3 12
    have h2 := ja_len (x := x) 5 7
    have h3 := ja_len (x := x) 7 10
    have h4 : (am_lit 0).length = 1 := rfl
    have h5 : (am_lit 1).length = 2 := rfl
    have h6 : (am_lit 2).length = 1 := rfl
    omega
theorem ja_tx2 {x : Int32} : (∀ c ∈ am_tx 386 x, c < 128) ∧ (am_tx 386 x).length < 16 := by
  have e : am_tx 386 x = am_lit 3 ++ am_da x 3 6 ++ am_lit 4 ++ am_da x 5 26 ++ am_lit 5 ++ am_da x 4 4 := if_neg (by decide)
  rw [e]
  refine ⟨fun c hc => ?_, ?_⟩
  · simp only [List.mem_append] at hc
    rcases hc with ((((h | h) | h) | h) | h) | h
    · exact (ja_lit 3 (by decide)).1 c h
    · exact ja_da (by decide) (by decide) c h
    · exact (ja_lit 4 (by decide)).1 c h
    · exact ja_da (by decide) (by decide) c h
    · exact (ja_lit 5 (by decide)).1 c h
    · exact ja_da (by decide) (by decide) c h
  · simp only [List.length_append]
    have h1 := ja_len (x := x) 3 6
    have h2 := ja_len (x := x) 5 26
    have h3 := ja_len (x := x) 4 4
    have h4 : (am_lit 3).length = 1 := rfl
    have h5 : (am_lit 4).length = 3 := rfl
    have h6 : (am_lit 5).length = 2 := rfl
    omega
/-- a StringBuilder is made -/
theorem ja_begin {rest : List Value} (C : am_Cx p l s m args meth c G am_chz) (hnc : am_Nc G s) (hKD : va_K D jcl [(cA, .byte)] s) (hml : c.maxLocals = lsc.size) (hS : va_S (am_A G) s.heap H locs) (hz : am_b0 G ≤ H.size)
    (hfr : 5 ≤ R.frames) (hlo : 113 ≤ R.locals) (hf : cells + 2 ≤ R.cells ∧ slots + 20 ≤ R.slots) (hW : ((Value.ref H.size :: rest).map fun v => v.category).sum ≤ 8)
    (dg0 : decode (am_by am_chz) pc = .ok (.new 238, 3)) (dg1 : decode (am_by am_chz) (pc + 3) = .ok (.dup, 1)) (dg2 : decode (am_by am_chz) (pc + 3 + 1) = .ok (.invokespecial 240, 3))
    (kk : ∀ (b d : Nat) (H1 : Heap) (L1 : List Loc), H.size ≤ b → H.size ≤ d → jStg D cA b d [] s H1 → va_S (am_A G) s.heap H1 L1 → va_S (jNw H.size) H H1 [] → W p l e R s m args below meth c H1 L1 (cells + 1 + 1) (slots + 4 + 16) Q (F0 m (pc + 3 + 1 + 3) lsc (.ref b :: rest))) :
    W p l e R s m args below meth c H locs cells slots Q (F0 m pc lsc rest) := by
  have hJ := hnc.2.2.1.kept hS.2.1
  obtain ⟨hx, hb, hml', hown, hts, -⟩ := C
  have hj := j_hts hts hnc.2.2.2
  have hKn := hKD.1 0 _ rfl
  refine W.newcK hx hb hown (hj _ j_w1154) (hj _ j_w1155) (hj _ j_w29) rfl dg0 (by omega) (by omega) hKn.2.1 rfl fun H1 kC hkC e1 z1 o1 => ?_
  show W p l e R s m args below meth c H1 locs (cells + 1) (slots + 4) Q (F0 m (pc + 3) lsc (.ref H.size :: rest))
  have hP : va_P D jcl [(H.size, .inr (0, [.null, .int 0, .int 0, .int 0]))] H1 := by
    intro i q hi
    match i, hi with
    | 0, hi =>
      cases hi
      refine ⟨_, rfl, (u_born tyJ4 hj j_bw hKn hkC e1 tyJ4_ok).to (fun k hk => ?_)⟩
      match k, hk with
      | 0, _ => rfl
      | 1, _ => rfl
      | 2, _ => rfl
      | 3, _ => rfl
    | k + 1, hi => simp at hi
  have hZ : va_Z "java/lang/String" "COMPACT_STRINGS" "Z" (.int 1) (fun q => q = H.size ∨ H1.size ≤ q) s H1 := (hJ.1.kept (fun a q1 _ => o1 a q1)).narrow (fun q h => by
    show am_b0 G ≤ q
    rcases h with h | h <;> omega)
  refine lv_dup hx hb dg1 rfl ?_
  refine jI (al := []) (rest := .ref H.size :: rest) (k := 0) (ix := 240) (own := "BellTelegraphLaw") (mj_bin l (u0 := s) (H0 := H1) hKD hP hZ) hx hb hml hown hj rfl (hj _ j_w1156) j_w1157 j_w29 j_w1158 (by decide) (by decide +kernel) rfl (by omega) (by omega) ⟨by omega, by omega⟩ hW dg2 ?_
  rintro v H2 L ⟨rfl, d, h1, h2, h3⟩ hL
  have hs1 := hS.1
  have h31 := h3.1
  refine kk H.size d H2 (locs ++ L) (Nat.le_refl _) (by omega) ⟨fun _ => 0, ⟨hKD, h2, by omega, (hZ.kept h3.2.1).narrow (fun q h => ?_)⟩, fun j hj => absurd hj (Nat.not_lt_zero _)⟩ ⟨by omega, fun q q1 q2 => ?_, fun q hq => ?_⟩ ⟨by omega, fun q q1 q2 => ?_, j_nil⟩
  · rcases h with h | h
    · exact Or.inl h
    · exact Or.inr (by omega)
  · rw [h3.2.1 q (by omega) (fun h => by omega), o1 q (by omega)]
    exact hS.2.1 q q1 q2
  · rcases List.mem_append.mp hq with h | h
    · exact hS.2.2 q h
    · show am_b0 G ≤ q.base
      rcases hL q h with h | h <;> omega
  · rw [h3.2.1 q (by omega) (fun h => by omega)]
    exact o1 q q1
/-- the String comes out, and goes to the call -/
theorem ja_end {d0 pc0 : Nat} {T : List Nat} {v : Value} {M' : am_M} {X' : am_X} {H1 : Heap} {L1 : List Loc} (C : am_Cx p l s m args meth c G am_chz) (hnc : am_Nc G s) (hcs : am_Cs l d0) (hfr : d0 + 27 ≤ R.frames) (hlo : 31 * d0 + 751 ≤ R.locals)
    (d1 : D.1 1 = G.2.2.1.1 9) (d2 : D.2 1 0 = G.2.2.1.2 9 0) (d3 : D.2 1 1 = G.2.2.1.2 9 1) (hml : c.maxLocals = lsc.size) (hg : jStg D (G.2.2.2.1 3) b d T s H1) (hS1 : va_S (am_A G) s.heap H1 L1) (hF : va_S (jNw H.size) H H1 []) (hH : am_HR G M X H) (hph : X.2.1 = none) (hz : am_b0 G ≤ H.size)
    (h128 : ∀ c ∈ T, c < 128) (h16 : T.length < 16) (hcall : am_ev d0 am_rdz [.inr (some (3, 0, 0)), .inr (some (50, 0, 0))] M (am_hx X T) = some (.inl (some (.inl v)), M', X')) (hf : cells + 2 + (X'.2.2.1 - X.2.2.1) ≤ R.cells ∧ slots + 20 + (X'.2.2.2.1 - X.2.2.2.1) ≤ R.slots)
    (dg : decode (am_by am_chz) pc0 = .ok (.invokevirtual 253, 3))
    (hgo : ∀ (a : Nat) (H2 : Heap) (L2 : List Loc) (n1 n2 : Nat), W p l e R s m args below meth c H2 L2 n1 n2 Q (F0 m 446 lsc [.ref a, am_tv G (.inr (some (3, 0, 0)))]) → W p l e R s m args below meth c H2 L2 n1 n2 Q (F0 m (pc0 + 3) lsc [.ref a, am_tv G (.inr (some (3, 0, 0)))]))
    (kk : ∀ (H2 : Heap) (L2 : List Loc), (∀ k1 k2 : Nat, am_HR G M' (X'.1, X'.2.1, k1, k2, X'.2.2.2.2.1, none) H2) → va_S (am_A G) s.heap H2 L2 → W p l e R s m args below meth c H2 L2 (cells + 2 + (X'.2.2.1 - X.2.2.1)) (slots + 20 + (X'.2.2.2.1 - X.2.2.2.1)) Q (F0 m 449 lsc [v])) :
    W p l e R s m args below meth c H1 L1 cells slots Q (F0 m pc0 lsc [.ref b, am_tv G (.inr (some (3, 0, 0)))]) := by
  obtain ⟨f, hB, ht⟩ := hg
  obtain ⟨cb, g5, g6, g7, -⟩ := hB.cell
  have C' := C
  obtain ⟨hx, hbb, hml', hown, hts, -⟩ := C'
  have hj := j_hts hts hnc.2.2.2
  have hfit : ∀ j, j < T.length → fits .byte (.int (f j)) = true := by
    intro j hj2
    rw [ht j hj2]
    refine j_fitb _ ?_
    rw [List.getD_eq_getElem?_getD, List.getElem?_eq_getElem hj2]
    exact h128 _ (List.getElem_mem hj2)
  have hph2 := hH.2.2.1
  rw [hph] at hph2
  dsimp only at hph2
  have hF1 := hF.1
  refine jV (C := "java/lang/StringBuilder") (al := []) (rest := [am_tv G (.inr (some (3, 0, 0)))]) (k := 0) (ix := 253) (own := "BellTelegraphLaw") (mj_bts l (u0 := s) (H0 := H1) hB h16 hfit) hx hbb hml hown hj (hj _ j_w1311) j_w1312 j_w29 j_w1314 j_w1313 (by decide) (by decide +kernel) rfl g5 g6 g7 (by omega) (by omega) ⟨by omega, by omega⟩ (am_cat (G := G) [.inr (some (3, 0, 0))] (by decide)) dg ?_
  rintro r H2 L ⟨a, x, f', rfl, ⟨ha, hx2, hax⟩, hf', hP, hS2⟩ hL
  have hs2 := hS2.1
  have hso := ja_so d1 d2 d3 hP rfl (fun j hj => (hf' j hj).trans (ht j hj))
  have hHb : am_HR G M X H2 := hH.bump hph (by omega) (fun q q1 => by
    rw [hS2.2.1 q (by omega) (fun h => absurd (show H1.size ≤ q from h) (by omega))]
    exact hF.2.1 q q1 (fun h => absurd (show H.size ≤ q from h) (by omega))) rfl hph rfl
  have hs1 := hS1.1
  have hS3 : va_S (am_A G) s.heap H2 (L1 ++ L) := by
    refine ⟨by omega, fun q q1 q2 => ?_, fun q hq => ?_⟩
    · rw [hS2.2.1 q (by omega) (fun h => absurd (show H1.size ≤ q from h) (by omega))]
      exact hS1.2.1 q q1 q2
    · rcases List.mem_append.mp hq with h | h
      · exact hS1.2.2 q h
      · have h9 : H1.size ≤ q.base := hL q h
        show am_b0 G ≤ q.base
        omega
  refine hgo a H2 (L1 ++ L) _ _ ?_
  exact ja_call (d0 := d0) (y := am_rdz) (ix := 263) (vs0 := [.inr (some (3, 0, 0))]) (rest := []) (a := a) (x := x) (t := T) C hnc hcs hfr hlo (by decide +kernel) dch_446 (by decide +kernel) (by decide) (fun v hv => by
    rw [List.mem_singleton] at hv
    rw [hv]
    exact Or.inr ⟨(3, 0, 0), rfl⟩) rfl rfl hcall hHb hS3 hso ⟨Or.inr (by omega), Or.inr (by omega), hax⟩ h128 (by omega) (hml.symm.trans hml') hf kk
theorem ja_road1 {d0 : Nat} {x : Int32} {v : Value} {M' : am_M} {X' : am_X} (C : am_Cx p l s m args meth c G am_chz) (hnc : am_Nc G s) (hcs : am_Cs l d0) (hfr : d0 + 27 ≤ R.frames) (hlo : 31 * d0 + 751 ≤ R.locals) (hH : am_HR G M X H) (hS : va_S (am_A G) s.heap H locs) (hph : X.2.1 = none) (hml1 : c.maxLocals = lsc.size) (hl1 : lsc[1]? = some (.val (.int x)))
    (hcall : am_ev d0 am_rdz [.inr (some (3, 0, 0)), .inr (some (50, 0, 0))] M (am_hx X (am_tx 324 x)) = some (.inl (some (.inl v)), M', X')) (hf : cells + 4 + (X'.2.2.1 - X.2.2.1) ≤ R.cells ∧ slots + 40 + (X'.2.2.2.1 - X.2.2.2.1) ≤ R.slots)
    (kk : ∀ (H2 : Heap) (L2 : List Loc), (∀ k1 k2 : Nat, am_HR G M' (X'.1, X'.2.1, k1, k2, X'.2.2.2.2.1, none) H2) → va_S (am_A G) s.heap H2 L2 → W p l e R s m args below meth c H2 L2 (cells + 1 + 1 + 2 + (X'.2.2.1 - X.2.2.1)) (slots + 4 + 16 + 20 + (X'.2.2.2.1 - X.2.2.2.1)) Q (F0 m 449 lsc [v])) :
    W p l e R s m args below meth c H locs cells slots Q (F0 m 324 lsc [am_tv G (.inr (some (3, 0, 0)))]) := by
  obtain ⟨D, hKD, d1, d2, d3⟩ := ja_K C hnc
  have C' := C
  obtain ⟨hx, hb, hml', hown, hts, hK, hU, hN, hXX, hbb, -⟩ := C'
  have hown1 : s.vm.findClass RL = some m.cls := hown
  have hz : am_b0 G ≤ H.size := Nat.le_trans hbb.2.1 hS.1
  have hf2 : cells + 1 + 1 ≤ R.cells ∧ slots + 4 + 16 ≤ R.slots := by omega
  have hW2 : ([am_tv G (.inr (some (3, 0, 0)))].map fun v => v.category).sum ≤ 8 := am_cat (G := G) [.inr (some (3, 0, 0))] (by decide)
  have hW3 : ∀ b : Nat, ((Value.ref b :: [am_tv G (.inr (some (3, 0, 0)))]).map fun v => v.category).sum ≤ 8 := fun b => by first | exact am_cat (G := am_gx G (am_wa G, b, 0, 0)) [.inr (some (50, 0, 0)), .inr (some (3, 0, 0))] (by decide) | simp [Value.category, am_tv, am_rv]
  have q1 := ja_len (x := x) 3 12
  have q2 := ja_len (x := x) 5 7
  have q3 := ja_len (x := x) 7 10
  have q4 : (am_lit 0).length = 1 := rfl
  have q5 : (am_lit 1).length = 2 := rfl
  have q6 : (am_lit 2).length = 1 := rfl
  refine ja_begin C hnc hKD hml1 hS hz (by omega) (by omega) ⟨by omega, by omega⟩ (hW3 _) dch_324 dch_327 dch_328 (fun b d H1 L1 hb1 hd1 g S1 F1 => ?_)
  refine ja_app (k := 0) (pc := 331) (pc2 := 333) (t := []) C hnc hml1 g S1 F1 hz hb1 hd1 (by decide) (by first | omega | (simp only [List.length_append, List.length_nil]; omega)) (by omega) (by omega) hf2 hW2 (fun a ha kq => va_ldcS hx hb hown1 ha dch_331 kq) dch_333 (fun H1 L1 g S1 F1 => ?_)
  have g : jStg D (G.2.2.2.1 3) b d (am_lit 0) s H1 := g
  refine lv_iload_n (i := 1) hx hb dch_336 rfl hl1 ?_
  refine lv_iconst (v := nI 3) hx hb dch_337 (by decide +kernel) ?_
  refine lv_ishr hx hb dch_338 ?_
  refine lv_bipush (v := nI 12) hx hb dch_339 (by decide +kernel) ?_
  refine ja_num (n := 12) (y := x >>> (nI 3 &&& 31)) (pc := 341) (pc2 := 344) C hnc hml1 g S1 F1 hz hb1 hd1 (by decide) (by decide) (Nat.le_trans (Nat.add_le_add_left (show (if 12 ≤ 10 then 1 else 2) ≤ 2 by decide) _) (by first | omega | (simp only [List.length_append, List.length_nil]; omega))) (by omega) (by omega) hf2 (hW3 _) dch_341 rfl dch_344 (fun H1 L1 g S1 F1 => ?_)
  have g : jStg D (G.2.2.2.1 3) b d (am_lit 0 ++ am_da x 3 12) s H1 := g
  refine ja_app (k := 1) (pc := 347) (pc2 := 349) (t := am_lit 0 ++ am_da x 3 12) C hnc hml1 g S1 F1 hz hb1 hd1 (by decide) (by first | omega | (simp only [List.length_append, List.length_nil]; omega)) (by omega) (by omega) hf2 hW2 (fun a ha kq => va_ldcS hx hb hown1 ha dch_347 kq) dch_349 (fun H1 L1 g S1 F1 => ?_)
  have g : jStg D (G.2.2.2.1 3) b d (am_lit 0 ++ am_da x 3 12 ++ am_lit 1) s H1 := g
  refine lv_iload_n (i := 1) hx hb dch_352 rfl hl1 ?_
  refine lv_iconst (v := nI 5) hx hb dch_353 (by decide +kernel) ?_
  refine lv_ishr hx hb dch_354 ?_
  refine lv_bipush (v := nI 7) hx hb dch_355 (by decide +kernel) ?_
  refine ja_num (n := 7) (y := x >>> (nI 5 &&& 31)) (pc := 357) (pc2 := 360) C hnc hml1 g S1 F1 hz hb1 hd1 (by decide) (by decide) (Nat.le_trans (Nat.add_le_add_left (show (if 7 ≤ 10 then 1 else 2) ≤ 2 by decide) _) (by first | omega | (simp only [List.length_append, List.length_nil]; omega))) (by omega) (by omega) hf2 (hW3 _) dch_357 rfl dch_360 (fun H1 L1 g S1 F1 => ?_)
  have g : jStg D (G.2.2.2.1 3) b d (am_lit 0 ++ am_da x 3 12 ++ am_lit 1 ++ am_da x 5 7) s H1 := g
  refine ja_app (k := 2) (pc := 363) (pc2 := 365) (t := am_lit 0 ++ am_da x 3 12 ++ am_lit 1 ++ am_da x 5 7) C hnc hml1 g S1 F1 hz hb1 hd1 (by decide) (by first | omega | (simp only [List.length_append, List.length_nil]; omega)) (by omega) (by omega) hf2 hW2 (fun a ha kq => va_ldcS hx hb hown1 ha dch_363 kq) dch_365 (fun H1 L1 g S1 F1 => ?_)
  have g : jStg D (G.2.2.2.1 3) b d (am_lit 0 ++ am_da x 3 12 ++ am_lit 1 ++ am_da x 5 7 ++ am_lit 2) s H1 := g
  refine lv_iload_n (i := 1) hx hb dch_368 rfl hl1 ?_
  refine lv_bipush (v := nI 7) hx hb dch_369 (by decide +kernel) ?_
  refine lv_ishr hx hb dch_371 ?_
  refine lv_bipush (v := nI 10) hx hb dch_372 (by decide +kernel) ?_
  refine ja_num (n := 10) (y := x >>> (nI 7 &&& 31)) (pc := 374) (pc2 := 377) C hnc hml1 g S1 F1 hz hb1 hd1 (by decide) (by decide) (Nat.le_trans (Nat.add_le_add_left (show (if 10 ≤ 10 then 1 else 2) ≤ 2 by decide) _) (by first | omega | (simp only [List.length_append, List.length_nil]; omega))) (by omega) (by omega) hf2 (hW3 _) dch_374 rfl dch_377 (fun H1 L1 g S1 F1 => ?_)
  have g : jStg D (G.2.2.2.1 3) b d (am_lit 0 ++ am_da x 3 12 ++ am_lit 1 ++ am_da x 5 7 ++ am_lit 2 ++ am_da x 7 10) s H1 := g
  have g : jStg D (G.2.2.2.1 3) b d (am_tx 324 x) s H1 := g
  exact ja_end C hnc hcs hfr hlo d1 d2 d3 hml1 g S1 F1 hH hph hz (ja_tx1 (x := x)).1 (ja_tx1 (x := x)).2 hcall (by omega) dch_380 (fun a H2 L2 n1 n2 k => lv_goto (tgt := 446) hx hb dch_383 (by decide) k) kk
theorem ja_road2 {d0 : Nat} {x : Int32} {v : Value} {M' : am_M} {X' : am_X} (C : am_Cx p l s m args meth c G am_chz) (hnc : am_Nc G s) (hcs : am_Cs l d0) (hfr : d0 + 27 ≤ R.frames) (hlo : 31 * d0 + 751 ≤ R.locals) (hH : am_HR G M X H) (hS : va_S (am_A G) s.heap H locs) (hph : X.2.1 = none) (hml1 : c.maxLocals = lsc.size) (hl1 : lsc[1]? = some (.val (.int x)))
    (hcall : am_ev d0 am_rdz [.inr (some (3, 0, 0)), .inr (some (50, 0, 0))] M (am_hx X (am_tx 386 x)) = some (.inl (some (.inl v)), M', X')) (hf : cells + 4 + (X'.2.2.1 - X.2.2.1) ≤ R.cells ∧ slots + 40 + (X'.2.2.2.1 - X.2.2.2.1) ≤ R.slots)
    (kk : ∀ (H2 : Heap) (L2 : List Loc), (∀ k1 k2 : Nat, am_HR G M' (X'.1, X'.2.1, k1, k2, X'.2.2.2.2.1, none) H2) → va_S (am_A G) s.heap H2 L2 → W p l e R s m args below meth c H2 L2 (cells + 1 + 1 + 2 + (X'.2.2.1 - X.2.2.1)) (slots + 4 + 16 + 20 + (X'.2.2.2.1 - X.2.2.2.1)) Q (F0 m 449 lsc [v])) :
    W p l e R s m args below meth c H locs cells slots Q (F0 m 386 lsc [am_tv G (.inr (some (3, 0, 0)))]) := by
  obtain ⟨D, hKD, d1, d2, d3⟩ := ja_K C hnc
  have C' := C
  obtain ⟨hx, hb, hml', hown, hts, hK, hU, hN, hXX, hbb, -⟩ := C'
  have hown1 : s.vm.findClass RL = some m.cls := hown
  have hz : am_b0 G ≤ H.size := Nat.le_trans hbb.2.1 hS.1
  have hf2 : cells + 1 + 1 ≤ R.cells ∧ slots + 4 + 16 ≤ R.slots := by omega
  have hW2 : ([am_tv G (.inr (some (3, 0, 0)))].map fun v => v.category).sum ≤ 8 := am_cat (G := G) [.inr (some (3, 0, 0))] (by decide)
  have hW3 : ∀ b : Nat, ((Value.ref b :: [am_tv G (.inr (some (3, 0, 0)))]).map fun v => v.category).sum ≤ 8 := fun b => by first | exact am_cat (G := am_gx G (am_wa G, b, 0, 0)) [.inr (some (50, 0, 0)), .inr (some (3, 0, 0))] (by decide) | simp [Value.category, am_tv, am_rv]
  have q1 := ja_len (x := x) 3 6
  have q2 := ja_len (x := x) 5 26
  have q3 := ja_len (x := x) 4 4
  have q4 : (am_lit 3).length = 1 := rfl
  have q5 : (am_lit 4).length = 3 := rfl
  have q6 : (am_lit 5).length = 2 := rfl
  refine ja_begin C hnc hKD hml1 hS hz (by omega) (by omega) ⟨by omega, by omega⟩ (hW3 _) dch_386 dch_389 dch_390 (fun b d H1 L1 hb1 hd1 g S1 F1 => ?_)
  refine ja_app (k := 3) (pc := 393) (pc2 := 396) (t := []) C hnc hml1 g S1 F1 hz hb1 hd1 (by decide) (by first | omega | (simp only [List.length_append, List.length_nil]; omega)) (by omega) (by omega) hf2 hW2 (fun a ha kq => j_ldcw hx hb hown1 ha dch_393 kq) dch_396 (fun H1 L1 g S1 F1 => ?_)
  have g : jStg D (G.2.2.2.1 3) b d (am_lit 3) s H1 := g
  refine lv_iload_n (i := 1) hx hb dch_399 rfl hl1 ?_
  refine lv_iconst (v := nI 3) hx hb dch_400 (by decide +kernel) ?_
  refine lv_ishr hx hb dch_401 ?_
  refine lv_bipush (v := nI 6) hx hb dch_402 (by decide +kernel) ?_
  refine ja_num (n := 6) (y := x >>> (nI 3 &&& 31)) (pc := 404) (pc2 := 407) C hnc hml1 g S1 F1 hz hb1 hd1 (by decide) (by decide) (Nat.le_trans (Nat.add_le_add_left (show (if 6 ≤ 10 then 1 else 2) ≤ 2 by decide) _) (by first | omega | (simp only [List.length_append, List.length_nil]; omega))) (by omega) (by omega) hf2 (hW3 _) dch_404 rfl dch_407 (fun H1 L1 g S1 F1 => ?_)
  have g : jStg D (G.2.2.2.1 3) b d (am_lit 3 ++ am_da x 3 6) s H1 := g
  refine ja_app (k := 4) (pc := 410) (pc2 := 413) (t := am_lit 3 ++ am_da x 3 6) C hnc hml1 g S1 F1 hz hb1 hd1 (by decide) (by first | omega | (simp only [List.length_append, List.length_nil]; omega)) (by omega) (by omega) hf2 hW2 (fun a ha kq => j_ldcw hx hb hown1 ha dch_410 kq) dch_413 (fun H1 L1 g S1 F1 => ?_)
  have g : jStg D (G.2.2.2.1 3) b d (am_lit 3 ++ am_da x 3 6 ++ am_lit 4) s H1 := g
  refine lv_iload_n (i := 1) hx hb dch_416 rfl hl1 ?_
  refine lv_iconst (v := nI 5) hx hb dch_417 (by decide +kernel) ?_
  refine lv_ishr hx hb dch_418 ?_
  refine lv_bipush (v := nI 26) hx hb dch_419 (by decide +kernel) ?_
  refine ja_num (n := 26) (y := x >>> (nI 5 &&& 31)) (pc := 421) (pc2 := 424) C hnc hml1 g S1 F1 hz hb1 hd1 (by decide) (by decide) (Nat.le_trans (Nat.add_le_add_left (show (if 26 ≤ 10 then 1 else 2) ≤ 2 by decide) _) (by first | omega | (simp only [List.length_append, List.length_nil]; omega))) (by omega) (by omega) hf2 (hW3 _) dch_421 rfl dch_424 (fun H1 L1 g S1 F1 => ?_)
  have g : jStg D (G.2.2.2.1 3) b d (am_lit 3 ++ am_da x 3 6 ++ am_lit 4 ++ am_da x 5 26) s H1 := g
  refine ja_app (k := 5) (pc := 427) (pc2 := 430) (t := am_lit 3 ++ am_da x 3 6 ++ am_lit 4 ++ am_da x 5 26) C hnc hml1 g S1 F1 hz hb1 hd1 (by decide) (by first | omega | (simp only [List.length_append, List.length_nil]; omega)) (by omega) (by omega) hf2 hW2 (fun a ha kq => j_ldcw hx hb hown1 ha dch_427 kq) dch_430 (fun H1 L1 g S1 F1 => ?_)
  have g : jStg D (G.2.2.2.1 3) b d (am_lit 3 ++ am_da x 3 6 ++ am_lit 4 ++ am_da x 5 26 ++ am_lit 5) s H1 := g
  refine lv_iload_n (i := 1) hx hb dch_433 rfl hl1 ?_
  refine lv_iconst (v := nI 4) hx hb dch_434 (by decide +kernel) ?_
  refine lv_ishr hx hb dch_435 ?_
  refine lv_iconst (v := nI 4) hx hb dch_436 (by decide +kernel) ?_
  refine ja_num (n := 4) (y := x >>> (nI 4 &&& 31)) (pc := 437) (pc2 := 440) C hnc hml1 g S1 F1 hz hb1 hd1 (by decide) (by decide) (Nat.le_trans (Nat.add_le_add_left (show (if 4 ≤ 10 then 1 else 2) ≤ 2 by decide) _) (by first | omega | (simp only [List.length_append, List.length_nil]; omega))) (by omega) (by omega) hf2 (hW3 _) dch_437 rfl dch_440 (fun H1 L1 g S1 F1 => ?_)
  have g : jStg D (G.2.2.2.1 3) b d (am_lit 3 ++ am_da x 3 6 ++ am_lit 4 ++ am_da x 5 26 ++ am_lit 5 ++ am_da x 4 4) s H1 := g
  have g : jStg D (G.2.2.2.1 3) b d (am_tx 386 x) s H1 := g
  exact ja_end C hnc hcs hfr hlo d1 d2 d3 hml1 g S1 F1 hH hph hz (ja_tx2 (x := x)).1 (ja_tx2 (x := x)).2 hcall (by omega) dch_443 (fun a H2 L2 n1 n2 k => k) kk
theorem am_s_ca {d ix : Nat} {q : am_N} (C : am_Cx p l s m args meth c G z) (hnc : am_Nc G s) (hcs : am_Cs l d) (hfr : d + 27 ≤ R.frames) (hlo : 31 * d + 751 ≤ R.locals) (hle : am_le X0 X) (hcd : am_cd z pc = some (.new ix)) (h : am_ca (am_ev d) z pc ls st M X (fun a b c d e => some (.inl (a, b, c, d, e))) = some q) (hrm : (am_nx q).2.2.1 - X0.2.2.1 ≤ R.cells ∧ (am_nx q).2.2.2.1 - X0.2.2.2.1 ≤ R.slots) (hq : ∀ w, q = .inl w → am_Sm p l e R s m args below meth c Q G z X0 w) : am_Sm p l e R s m args below meth c Q G z X0 (pc, ls, st, M, X) := by
  unfold am_ca at h
  obtain ⟨⟨rfl, hpc, hph, ht0⟩, h1⟩ := am_if_i h
  obtain ⟨v, hg, h2⟩ := am_get_i h1
  obtain ⟨x, rfl, h3⟩ := am_asI_i h2
  obtain ⟨l0, st1, rfl, h5⟩ := am_popP_i h3
  obtain ⟨h4, h6⟩ := am_sm_i h5
  obtain ⟨⟨rfl, hem⟩, h7⟩ := am_if_i h6
  have hst : st1 = [] := List.isEmpty_iff.mp hem
  subst hst
  obtain ⟨r, M', X', hcall, h8⟩ := am_bs_i h7
  cases h8
  obtain ⟨g1, g2⟩ := hle
  obtain ⟨g3, g4⟩ := am_ev_le _ _ _ _ _ _ hcall
  dsimp only [am_hx] at g3 g4
  dsimp only [am_nx] at hrm
  intro H locs lsc hH hS hl
  dsimp only at hH hl ⊢
  have hml1 : c.maxLocals = lsc.size := C.2.2.1.trans hl.1.1.symm
  have hl1 : lsc[1]? = some (.val (.int x)) := hl.at hg
  have fin : ∀ (H2 : Heap) (L2 : List Loc), (∀ k1 k2 : Nat, am_HR G M' (X'.1, X'.2.1, k1, k2, X'.2.2.2.2.1, none) H2) → va_S (am_A G) s.heap H2 L2 → W p l e R s m args below meth c H2 L2 (X.2.2.1 - X0.2.2.1 + 1 + 1 + 2 + (X'.2.2.1 - X.2.2.1)) (X.2.2.2.1 - X0.2.2.2.1 + 4 + 16 + 20 + (X'.2.2.2.1 - X.2.2.2.1)) Q (F0 m 449 lsc [r]) := by
    intro H2 L2 hH2 hS2
    have k := hq _ rfl H2 L2 lsc (hH2 _ _) hS2 hl
    dsimp only at k
    exact W.widen (by omega) (by omega) k
  rcases hpc with rfl | rfl
  · exact ja_road1 C hnc hcs hfr hlo hH hS hph hml1 hl1 hcall (by omega) fin
  · exact ja_road2 C hnc hcs hfr hlo hH hS hph hml1 hl1 hcall (by omega) fin
end JCall
end
