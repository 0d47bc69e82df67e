/-! THE JDK's OWN METHODS: contracts at a given heap, calls by them -/
def j_W0 : List Cond := lw_tbl.filter goodWord
def j_W : List Cond := j_W0 ++ j_X
def j_at (i : Nat) (w : Cond) : Bool := decide (lw_tbl[i]? = some w) && goodWord w
theorem j_at_in {i : Nat} {w : Cond} (h : j_at i w = true) : w ∈ j_W := by
  simp only [j_at, Bool.and_eq_true, decide_eq_true_eq] at h
  exact List.mem_append_left _ (List.mem_filter.mpr ⟨List.mem_of_getElem? h.1, h.2⟩)
theorem j_W_am {w : Cond} (h : w ∈ j_W0) : w ∈ am_W := by
  obtain ⟨h1, h2⟩ := List.mem_filter.mp h
  exact List.mem_filter.mpr ⟨h1, by unfold am_gw; rw [h2]; rfl⟩
theorem j_good {ws : List Cond} (h : ∀ w ∈ ws, w ∈ j_W) : GoodIn j_W ws := fun w hw => ⟨h w hw, good_of_word ((List.mem_append.mp (h w hw)).elim (fun q => (List.mem_filter.mp q).2) (fun q => List.all_eq_true.mp j_X_good w q))⟩
abbrev jPc (u0 : State) (H0 : Heap) (av : List Value) : Array Value → State → Prop := fun a U => a = av.toArray ∧ U.heap = H0 ∧ u0.vm.Alike U.vm
abbrev jQ (post : Option Value → Heap → Prop) : Array Value → State → Outcome → State → Prop := fun _ _ o t => ∃ v, o = .returned v ∧ post v t.heap
abbrev jws (y : MethodName) (cc : ByteArray) (n : Nat) (ret : Option FieldType) : List Cond := Cond.code y cc n ret :: j_W
abbrev jrm (fr lo mc ms : Nat) : Room := { frames := fr, cells := mc, slots := ms, locals := lo }
def jM (l : Launch) (y : MethodName) (cc : ByteArray) (n : Nat) (ret : Option FieldType) (fr lo mc ms : Nat) (u0 : State) (H0 : Heap) (av : List Value) (A : Nat → Prop) (post : Option Value → Heap → Prop) : Prop :=
  Met l y (jws y cc n ret) (jrm fr lo mc ms) (jPc u0 H0 av) (jQ post) mc ms A
/-- what is at hand where a walk begins -/
abbrev jAt (p : Program) (y : MethodName) (cc : ByteArray) (n : Nat) (ret : Option FieldType) (u0 : State) (H0 : Heap) (av : List Value) (s : State) (m : MethodId) (meth : Method) (c : Code) : Prop :=
  p.tables.exec = Jvm.exec ∧ c.code = cc ∧ meth.sig.returnType = ret ∧ c.maxLocals = n ∧ (∀ w ∈ j_W, w.before av.toArray s = true) ∧ s.vm.findClass y.cls = some m.cls ∧ meth.locks = false ∧ u0.vm.Alike s.vm ∧ s.heap = H0
theorem jM.of {l : Launch} {y : MethodName} {cc : ByteArray} {n : Nat} {ret : Option FieldType} {fr lo mc ms : Nat} {u0 : State} {H0 : Heap} {av : List Value} {A : Nat → Prop} {post : Option Value → Heap → Prop} (hy : plainFor y = true) (hn : (lg_sl av).length ≤ n)
    (body : ∀ (p : Program) (e : Env) (s : State) (m : MethodId) (below : List Frame) (meth : Method) (c : Code) (ls : Array Slot), jAt p y cc n ret u0 H0 av s m meth c → lv_has ls n (lv_args 0 av) → W p l e (jrm fr lo mc ms) s m av.toArray below meth c s.heap [] 0 0 (MQ below (jQ post) av.toArray s mc ms A) (F0 m 0 ls [])) :
    jM l y cc n ret fr lo mc ms u0 H0 av A post := by
  refine va_MetF (cc := cc) (maxL := n) (ret := ret) hy rfl ?_
  intro p e s m args below meth c s₁ B hml hv
  obtain ⟨rfl, hh, hal⟩ := hv
  have hts := atoms_spec (ws := jws y cc n ret) B.pre
  have hl := lv_entry av hn
  rw [lg_entry_eq]
  exact body p e s m below meth c _ ⟨B.exec, B.bytes, B.returns, hml, fun w h => hts w (List.mem_cons_of_mem _ h), findClass_of_methodNamed B.named, B.notSynchronized, hal, hh⟩ hl
section JW
variable {p : Program} {l : Launch} {e : Env} {R : Room} {s : State} {m : MethodId} {args : Array Value} {below : List Frame} {meth : Method} {c : Code} {H : Heap} {locs : List Loc} {cells slots : Nat} {Q : State → Prop} {pc : Nat} {ls : Array Slot} {cc : ByteArray} {post : Option Value → Heap → Prop} {A : Nat → Prop} {mc ms : Nat}
theorem jret_i {v : Int32} {ty : FieldType} (hx : p.tables.exec = Jvm.exec) (hb : c.code = cc) (hr : meth.sig.returnType = some ty) (hn : narrow ty (.int v) = .int v) (hlk : meth.locks = false) (hp : post (some (.int v)) H) (hf : ∀ q ∈ locs, A q.base) (hc : cells ≤ mc) (hs : slots ≤ ms) (hdg : decode cc pc = .ok (.ireturn, 1)) : W p l e R s m args below meth c H locs cells slots (MQ below (jQ post) args s mc ms A) (F0 m pc ls [.int v]) :=
  W.widen hc hs (W.zret hx hb hr hn (fun t ht _ => ⟨_, rfl, by rw [ht]; exact hp⟩) hf hdg hlk)
theorem jret_l {v : Int64} (hx : p.tables.exec = Jvm.exec) (hb : c.code = cc) (hr : meth.sig.returnType = some .long) (hlk : meth.locks = false) (hp : post (some (.long v)) H) (hf : ∀ q ∈ locs, A q.base) (hc : cells ≤ mc) (hs : slots ≤ ms) (hdg : decode cc pc = .ok (.lreturn, 1)) : W p l e R s m args below meth c H locs cells slots (MQ below (jQ post) args s mc ms A) (F0 m pc ls [.long v]) :=
  W.widen hc hs (W.lret hx hb hr (fun t ht _ => ⟨_, rfl, by rw [ht]; exact hp⟩) hf hdg hlk)
theorem jret_v (hx : p.tables.exec = Jvm.exec) (hb : c.code = cc) (hr : meth.sig.returnType = none) (hlk : meth.locks = false) (hp : post none H) (hf : ∀ q ∈ locs, A q.base) (hc : cells ≤ mc) (hs : slots ≤ ms) (hdg : decode cc pc = .ok (.return_, 1)) : W p l e R s m args below meth c H locs cells slots (MQ below (jQ post) args s mc ms A) (F0 m pc ls []) :=
  W.widen hc hs (W.vret hx hb hr (fun t ht _ => ⟨_, rfl, by rw [ht]; exact hp⟩) hf hdg hlk)
theorem jret_a {a : Nat} {rt : FieldType} (hx : p.tables.exec = Jvm.exec) (hb : c.code = cc) (hr : meth.sig.returnType = some rt) (hrt : (∃ n, rt = .object n) ∨ ∃ t, rt = .array t) (hlk : meth.locks = false) (hp : post (some (.ref a)) H) (hf : ∀ q ∈ locs, A q.base) (hc : cells ≤ mc) (hs : slots ≤ ms) (hdg : decode cc pc = .ok (.areturn, 1)) : W p l e R s m args below meth c H locs cells slots (MQ below (jQ post) args s mc ms A) (F0 m pc ls [.ref a]) :=
  W.widen hc hs (W.aret hx hb hr hrt (Or.inr ⟨a, rfl⟩) (fun t ht _ => ⟨_, rfl, by rw [ht]; exact hp⟩) hf hdg hlk)
variable {y : MethodName} {bc : ByteArray} {n fr lo : Nat} {ret : Option FieldType} {av : List Value}
theorem j_blind {u0 : State} {H0 : Heap} : FrameBlind (jPc u0 H0 av) := fun _ _ _ _ h => h
theorem j_back (hM : jM l y bc n ret fr lo mc ms s H av A post) (hcode : Cond.code y bc n ret ∈ j_W) (hini : Cond.initialized y.cls ∈ j_W) (hts : ∀ w ∈ j_W, w.before args s = true) (hfr : fr + 1 ≤ R.frames) (hlo : lo + n + 19 ≤ R.locals) : Back l R p e below s args y 3 8 (PreOf R mc ms (jPc s H av)) (PostOf (jQ post) mc ms A) :=
  back_of (bytes := bc) (maxL := n) (ret := ret) hM j_blind rfl rfl hfr (by show 8 + (n + 11) + lo ≤ _; omega) (pay_in hts (j_good (fun w hw => (List.mem_cons.mp hw).elim (fun q => by rw [q]; exact hcode) id))) List.mem_cons_self (fun a' U hW => word_at hW (Or.inl (by first | rfl | simp [Cond.onTables, Cond.keeps, Cond.steady])) (hts _ hini))
theorem j_go {rest st0 : List Value} (h : ∀ T : State, T.heap = H → Stand p l e R s m args below meth c T locs cells slots → ∃ (v : Option Value) (vm₁ : Vm) (B : Pt), s.WarmedH vm₁ ∧ Stand p l e R s m args below meth c B.U B.locs B.cells B.slots ∧ PostOf (jQ post) mc ms A ⟨T.setVm vm₁, locs, cells, slots⟩ av.toArray v B ∧ ∀ target, Steps p.tables e below (B.U.setTop { F0 m pc ls st0 with pc := pc + 3, stack := v.toList ++ rest }) target → Steps p.tables e below (T.setTop (F0 m pc ls st0)) target)
    (kk : ∀ (v : Option Value) (H1 : Heap) (L : List Loc), post v H1 → (∀ q ∈ L, A q.base) → W p l e R s m args below meth c H1 (locs ++ L) (cells + mc) (slots + ms) Q (F0 m (pc + 3) ls (v.toList ++ rest))) : W p l e R s m args below meth c H locs cells slots Q (F0 m pc ls st0) := by
  intro T hT X
  obtain ⟨v, vm₁, ⟨U', l2, c2, s2⟩, hW₁, X', ⟨g', mk, t, L, e1, e2, ⟨v', hv, hq⟩, h1, hL, h2, h3⟩, st⟩ := h T hT X
  dsimp only [Pt.U, Pt.locs, Pt.cells, Pt.slots] at X' e1 e2 h1 h2 h3 st
  subst h1; subst h2; subst h3
  cases hv
  obtain ⟨t2, a1, b1⟩ := kk v U'.heap L (by rw [e1]; exact hq) hL U' rfl X'
  exact ⟨t2, st t2 a1, b1⟩
abbrev jKK (p : Program) (l : Launch) (e : Env) (R : Room) (s : State) (m : MethodId) (args : Array Value) (below : List Frame) (meth : Method) (c : Code) (locs : List Loc) (cells slots : Nat) (Q : State → Prop) (A : Nat → Prop) (post : Option Value → Heap → Prop) (mc ms pc : Nat) (ls : Array Slot) (rest : List Value) : Prop :=
  ∀ (v : Option Value) (H1 : Heap) (L : List Loc), post v H1 → (∀ q ∈ L, A q.base) → W p l e R s m args below meth c H1 (locs ++ L) (cells + mc) (slots + ms) Q (F0 m (pc + 3) ls (v.toList ++ rest))
theorem j_pre (hf : cells + mc ≤ R.cells ∧ slots + ms ≤ R.slots) (T : State) (hT : T.heap = H) : ∀ vm₁, s.WarmedH vm₁ → PreOf R mc ms (jPc s H av) ⟨T.setVm vm₁, locs, cells, slots⟩ av.toArray := fun vm₁ hW => ⟨hf.1, hf.2, rfl, hT, hW.alike⟩
variable {own : String} {ix : Nat} {rest : List Value}
theorem jS (hM : jM l y bc n ret fr lo mc ms s H av A post) (hx : p.tables.exec = Jvm.exec) (hb : c.code = cc) (hml : c.maxLocals = ls.size) (hown : s.vm.findClass own = some m.cls) (hts : ∀ w ∈ j_W, w.before args s = true)
    (w1 : (Cond.methodLink own ix y).before args s = true) (w2 : Cond.static y ∈ j_W) (w3 : Cond.initialized y.cls ∈ j_W) (w4 : Cond.code y bc n ret ∈ j_W) (hmh : y.cls ≠ "java/lang/invoke/MethodHandle" ∧ y.cls ≠ "java/lang/invoke/VarHandle") {k : Nat} (hd : (parseMethodDescriptor y.desc).map (fun d => d.parameters.length) = some k) (hk : av.length = k)
    (hfr : fr + 1 ≤ R.frames) (hlo : lo + n + 19 ≤ R.locals) (hf : cells + mc ≤ R.cells ∧ slots + ms ≤ R.slots) (hW : (rest.map fun v => v.category).sum ≤ 8) (hdg : decode cc pc = .ok (.invokestatic ix, 3))
    (kk : jKK p l e R s m args below meth c locs cells slots Q A post mc ms pc ls rest) : W p l e R s m args below meth c H locs cells slots Q (F0 m pc ls (av.reverse ++ rest)) := by
  refine j_go (av := av) (rest := rest) (fun T hT X => ?_) kk
  exact callS X hx (bytes := bc) (maxL := n) (ret := ret) hown w1 (hts _ w2) (hts _ w3) (hts _ w4) hmh (j_back hM w4 w3 hts hfr hlo) (g := F0 m pc ls (av.reverse ++ rest)) rfl hml.symm (argsL := av) (rest := rest) (fun sig h => by rw [h] at hd; exact hk.trans (Option.some.inj hd).symm) rfl (lv_room hW) (by rw [hb]; exact hdg) (j_pre hf T hT)
theorem jV {C : String} {b : Nat} {cellB : Cell} {al : List Value} (hM : jM l y bc n ret fr lo mc ms s H (.ref b :: al) A post) (hx : p.tables.exec = Jvm.exec) (hb : c.code = cc) (hml : c.maxLocals = ls.size) (hown : s.vm.findClass own = some m.cls) (hts : ∀ w ∈ j_W, w.before args s = true)
    (w1 : (Cond.methodLink own ix y).before args s = true) (w2 : Cond.instanceMethod y ∈ j_W) (w3 : Cond.initialized y.cls ∈ j_W) (w4 : Cond.code y bc n ret ∈ j_W) (w5 : Cond.selects C y y ∈ j_W) (hmh : y.cls ≠ "java/lang/invoke/MethodHandle" ∧ y.cls ≠ "java/lang/invoke/VarHandle") {k : Nat} (hd : (parseMethodDescriptor y.desc).map (fun d => d.parameters.length) = some k) (hk : al.length = k)
    (hcell : H[b]? = some cellB) (hobj : cellB.vm.isStatics = false) (hcls : s.vm.findClass C = some cellB.cls)
    (hfr : fr + 1 ≤ R.frames) (hlo : lo + n + 19 ≤ R.locals) (hf : cells + mc ≤ R.cells ∧ slots + ms ≤ R.slots) (hW : (rest.map fun v => v.category).sum ≤ 8) (hdg : decode cc pc = .ok (.invokevirtual ix, 3))
    (kk : jKK p l e R s m args below meth c locs cells slots Q A post mc ms pc ls rest) : W p l e R s m args below meth c H locs cells slots Q (F0 m pc ls (al.reverse ++ .ref b :: rest)) := by
  refine j_go (av := .ref b :: al) (rest := rest) (fun T hT X => ?_) kk
  exact callV X hx (C := C) (bytes := bc) (maxL := n) (ret := ret) hown w1 (hts _ w2) (hts _ w5) (hts _ w4) hmh (j_back hM w4 w3 hts hfr hlo) (by rw [hT]; exact hcell) hobj hcls (g := F0 m pc ls (al.reverse ++ .ref b :: rest)) rfl hml.symm (argsL := al) (rest := rest) (fun sig h => by rw [h] at hd; exact hk.trans (Option.some.inj hd).symm) rfl (lv_room hW) (by rw [hb]; exact hdg) (j_pre hf T hT)
/-- a method that the receiver's class C inherits from the class that the reference names, private or not -/
theorem jU {C : String} {b : Nat} {cellB : Cell} {al : List Value} (hM : jM l y bc n ret fr lo mc ms s H (.ref b :: al) A post) (hx : p.tables.exec = Jvm.exec) (hb : c.code = cc) (hml : c.maxLocals = ls.size) (hown : s.vm.findClass own = some m.cls) (hts : ∀ w ∈ j_W, w.before args s = true)
    (w1 : (Cond.methodLink own ix y).before args s = true) (w2 : Cond.instanceMethod y ∈ j_W) (w3 : Cond.initialized y.cls ∈ j_W) (w4 : Cond.code y bc n ret ∈ j_W) (w5 : (Cond.selects C y y).before args s = true) (w6 : Cond.sameMethod y.cls y.cls y.name y.desc ∈ j_W) (hmh : y.cls ≠ "java/lang/invoke/MethodHandle" ∧ y.cls ≠ "java/lang/invoke/VarHandle") {k : Nat} (hd : (parseMethodDescriptor y.desc).map (fun d => d.parameters.length) = some k) (hk : al.length = k)
    (hcell : H[b]? = some cellB) (hobj : cellB.vm.isStatics = false) (hcls : s.vm.findClass C = some cellB.cls)
    (hfr : fr + 1 ≤ R.frames) (hlo : lo + n + 19 ≤ R.locals) (hf : cells + mc ≤ R.cells ∧ slots + ms ≤ R.slots) (hW : (rest.map fun v => v.category).sum ≤ 8) (hdg : decode cc pc = .ok (.invokevirtual ix, 3))
    (kk : jKK p l e R s m args below meth c locs cells slots Q A post mc ms pc ls rest) : W p l e R s m args below meth c H locs cells slots Q (F0 m pc ls (al.reverse ++ .ref b :: rest)) := by
  refine j_go (av := .ref b :: al) (rest := rest) (fun T hT X => ?_) kk
  exact va_callVU X hx (C := C) (owner := y.cls) (x := y) (y := y) (bytes := bc) (maxL := n) (ret := ret) hown w1 (hts _ w6) (va_Decl.of (hts _ w2) (hts _ w4)) hmh w5 (hts _ w2) (hts _ w4) (j_back hM w4 w3 hts hfr hlo) (by rw [hT]; exact hcell) hobj hcls (g := F0 m pc ls (al.reverse ++ .ref b :: rest)) rfl hml.symm (argsL := al) (rest := rest) (fun sig h => by rw [h] at hd; exact hk.trans (Option.some.inj hd).symm) rfl (lv_room hW) (by rw [hb]; exact hdg) (j_pre hf T hT)
theorem jI {b : Nat} {al : List Value} (hM : jM l y bc n none fr lo mc ms s H (.ref b :: al) A post) (hx : p.tables.exec = Jvm.exec) (hb : c.code = cc) (hml : c.maxLocals = ls.size) (hown : s.vm.findClass own = some m.cls) (hts : ∀ w ∈ j_W, w.before args s = true) (hy1 : y.name = "<init>")
    (w1 : (Cond.methodLink own ix y).before args s = true) (w2 : Cond.instanceMethod y ∈ j_W) (w3 : Cond.initialized y.cls ∈ j_W) (w4 : Cond.code y bc n none ∈ j_W) (hmh : y.cls ≠ "java/lang/invoke/MethodHandle" ∧ y.cls ≠ "java/lang/invoke/VarHandle") {k : Nat} (hd : (parseMethodDescriptor y.desc).map (fun d => d.parameters.length) = some k) (hk : al.length = k)
    (hfr : fr + 1 ≤ R.frames) (hlo : lo + n + 19 ≤ R.locals) (hf : cells + mc ≤ R.cells ∧ slots + ms ≤ R.slots) (hW : (rest.map fun v => v.category).sum ≤ 8) (hdg : decode cc pc = .ok (.invokespecial ix, 3))
    (kk : jKK p l e R s m args below meth c locs cells slots Q A post mc ms pc ls rest) : W p l e R s m args below meth c H locs cells slots Q (F0 m pc ls (al.reverse ++ .ref b :: rest)) := by
  refine j_go (av := .ref b :: al) (rest := rest) (fun T hT X => ?_) kk
  exact callI X hx (bytes := bc) (maxL := n) hown hy1 w1 (hts _ w2) (hts _ w4) hmh (j_back hM w4 w3 hts hfr hlo) (g := F0 m pc ls (al.reverse ++ .ref b :: rest)) rfl hml.symm (a := b) (argsL := al) (rest := rest) (fun sig h => by rw [h] at hd; exact hk.trans (Option.some.inj hd).symm) rfl (lv_room hW) (by rw [hb]; exact hdg) (j_pre hf T hT)
end JW
