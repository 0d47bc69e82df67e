/-! ONE INSTRUCTION, A ROW: what am_rn does at it (the rows of each method are laid by a text program behind) -/
section AmRows
variable {call : Nat → List am_V → am_M → am_X → Option am_R} {z pc : Nat} {ls : am_S} {st : List am_V} {M : am_M} {X : am_X}
theorem rn_iconst {c : Int} {v : Int32} (hc : am_cd z pc = some (.iconst c)) (hv : Int32.ofInt c = v) : am_rn call z pc ls st M X = am_rn call z (pc + 1) ls (.inl (.int v) :: st) M X := by subst hv; exact am_rn_eq hc
theorem rn_bipush {c : Int} {v : Int32} (hc : am_cd z pc = some (.bipush c)) (hv : (Int8.ofInt c).toInt32 = v) : am_rn call z pc ls st M X = am_rn call z (pc + 2) ls (.inl (.int v) :: st) M X := by subst hv; exact am_rn_eq hc
theorem rn_sipush {c : Int} {v : Int32} (hc : am_cd z pc = some (.sipush c)) (hv : (Int16.ofInt c).toInt32 = v) : am_rn call z pc ls st M X = am_rn call z (pc + 3) ls (.inl (.int v) :: st) M X := by subst hv; exact am_rn_eq hc
theorem rn_ldc {ix : Nat} {v : Int32} (hc : am_cd z pc = some (.ldc ix)) (hv : am_kc (am_own z) ix = some v) : am_rn call z pc ls st M X = am_rn call z (pc + 2) ls (.inl (.int v) :: st) M X := by
  rw [am_rn_eq hc]
  dsimp only [am_ex]
  rw [hv]
  rfl
theorem rn_lconst {c : Fin 2} {v : Int64} (hc : am_cd z pc = some (.lconst c)) (hv : Int64.ofNat (c : Nat) = v) : am_rn call z pc ls st M X = am_rn call z (pc + 1) ls (.inl (.long v) :: st) M X := by subst hv; exact am_rn_eq hc
theorem rn_iinc {c : Int} {j : Nat} {v : Int32} (hc : am_cd z pc = some (.iinc j c)) (hv : Int32.ofInt c = v) : am_rn call z pc ls st M X = am_get ls j fun w => am_asI w fun x => am_rn call z (pc + 3) (am_put ls j (some (.inl (.int (x + v))))) st M X := by subst hv; exact am_rn_eq hc
theorem am_j_t {α : Type} {pc t : Nat} {o : Int} (h : (pc : Int) + o = (t : Int)) (f : Nat → Option α) : am_j pc o f = f t := by
  unfold am_j
  rw [h]
theorem rn_goto {o : Int} {t : Nat} (hc : am_cd z pc = some (.goto o)) (ht : (pc : Int) + o = (t : Int)) : am_rn call z pc ls st M X = am_rn call z t ls st M X := by
  rw [am_rn_eq hc]
  dsimp only [am_ex]
  rw [am_j_t ht]
section If
variable {o : Int} {t : Nat}
theorem rn_ifeq (hc : am_cd z pc = some (.ifCond .eq o)) (ht : (pc : Int) + o = (t : Int)) : am_rn call z pc ls st M X = am_popI st fun x st => if x = 0 then am_rn call z t ls st M X else am_rn call z (pc + 3) ls st M X := by
  rw [am_rn_eq hc]; simp only [am_ex, am_j_t ht]
theorem rn_ifne (hc : am_cd z pc = some (.ifCond .ne o)) (ht : (pc : Int) + o = (t : Int)) : am_rn call z pc ls st M X = am_popI st fun x st => if x = 0 then am_rn call z (pc + 3) ls st M X else am_rn call z t ls st M X := by
  rw [am_rn_eq hc]; simp only [am_ex, am_j_t ht]
theorem rn_iflt (hc : am_cd z pc = some (.ifCond .lt o)) (ht : (pc : Int) + o = (t : Int)) : am_rn call z pc ls st M X = am_popI st fun x st => if x < 0 then am_rn call z t ls st M X else am_rn call z (pc + 3) ls st M X := by
  rw [am_rn_eq hc]; simp only [am_ex, am_j_t ht]
theorem rn_ifge (hc : am_cd z pc = some (.ifCond .ge o)) (ht : (pc : Int) + o = (t : Int)) : am_rn call z pc ls st M X = am_popI st fun x st => if x < 0 then am_rn call z (pc + 3) ls st M X else am_rn call z t ls st M X := by
  rw [am_rn_eq hc]; simp only [am_ex, am_j_t ht]
theorem rn_ifgt (hc : am_cd z pc = some (.ifCond .gt o)) (ht : (pc : Int) + o = (t : Int)) : am_rn call z pc ls st M X = am_popI st fun x st => if 0 < x then am_rn call z t ls st M X else am_rn call z (pc + 3) ls st M X := by
  rw [am_rn_eq hc]; simp only [am_ex, am_j_t ht]
theorem rn_ifle (hc : am_cd z pc = some (.ifCond .le o)) (ht : (pc : Int) + o = (t : Int)) : am_rn call z pc ls st M X = am_popI st fun x st => if 0 < x then am_rn call z (pc + 3) ls st M X else am_rn call z t ls st M X := by
  rw [am_rn_eq hc]; simp only [am_ex, am_j_t ht]
theorem rn_iceq (hc : am_cd z pc = some (.if_icmp .eq o)) (ht : (pc : Int) + o = (t : Int)) : am_rn call z pc ls st M X = am_popI st fun y st => am_popI st fun x st => if x = y then am_rn call z t ls st M X else am_rn call z (pc + 3) ls st M X := by
  rw [am_rn_eq hc]; simp only [am_ex, am_j_t ht]
theorem rn_icne (hc : am_cd z pc = some (.if_icmp .ne o)) (ht : (pc : Int) + o = (t : Int)) : am_rn call z pc ls st M X = am_popI st fun y st => am_popI st fun x st => if x = y then am_rn call z (pc + 3) ls st M X else am_rn call z t ls st M X := by
  rw [am_rn_eq hc]; simp only [am_ex, am_j_t ht]
theorem rn_iclt (hc : am_cd z pc = some (.if_icmp .lt o)) (ht : (pc : Int) + o = (t : Int)) : am_rn call z pc ls st M X = am_popI st fun y st => am_popI st fun x st => if x < y then am_rn call z t ls st M X else am_rn call z (pc + 3) ls st M X := by
  rw [am_rn_eq hc]; simp only [am_ex, am_j_t ht]
theorem rn_icge (hc : am_cd z pc = some (.if_icmp .ge o)) (ht : (pc : Int) + o = (t : Int)) : am_rn call z pc ls st M X = am_popI st fun y st => am_popI st fun x st => if x < y then am_rn call z (pc + 3) ls st M X else am_rn call z t ls st M X := by
  rw [am_rn_eq hc]; simp only [am_ex, am_j_t ht]
theorem rn_icgt (hc : am_cd z pc = some (.if_icmp .gt o)) (ht : (pc : Int) + o = (t : Int)) : am_rn call z pc ls st M X = am_popI st fun y st => am_popI st fun x st => if y < x then am_rn call z t ls st M X else am_rn call z (pc + 3) ls st M X := by
  rw [am_rn_eq hc]; simp only [am_ex, am_j_t ht]
theorem rn_icle (hc : am_cd z pc = some (.if_icmp .le o)) (ht : (pc : Int) + o = (t : Int)) : am_rn call z pc ls st M X = am_popI st fun y st => am_popI st fun x st => if y < x then am_rn call z (pc + 3) ls st M X else am_rn call z t ls st M X := by
  rw [am_rn_eq hc]; simp only [am_ex, am_j_t ht]
end If
theorem rn_getI {ix ci j : Nat} (hc : am_cd z pc = some (.getfield ix)) (hf : am_fl (am_own z) ix = some (ci, j)) (hk : (am_fk ci j == 3) = false) : am_rn call z pc ls st M X = am_popP st fun l st => am_chk X l ci (am_rn call z (pc + 3) ls (.inl (.int (M l j)) :: st) M X) := by
  have hk : ¬ am_fk ci j = 3 := by simpa using hk
  rw [am_rn_eq hc]; simp only [am_ex, hf, hk, if_false]
theorem rn_getP {ix ci j : Nat} (hc : am_cd z pc = some (.getfield ix)) (hf : am_fl (am_own z) ix = some (ci, j)) (hk : (am_fk ci j == 3) = true) : am_rn call z pc ls st M X = am_popP st fun l st => am_chk X l ci (am_rn call z (pc + 3) ls (.inr (X.1 l j) :: st) M X) := by
  have hk : am_fk ci j = 3 := by simpa using hk
  rw [am_rn_eq hc]; simp only [am_ex, hf, hk, if_true]
def am_fo (z ci j : Nat) : Bool := !(am_ff ci j) || (am_ini z && am_own z == ci)
theorem am_fo_ok {z ci j : Nat} (h : am_fo z ci j = true) : ¬ (am_ff ci j = true ∧ ¬ (am_ini z = true ∧ am_own z = ci)) := by
  simp only [am_fo, Bool.or_eq_true, Bool.not_eq_true', Bool.and_eq_true, beq_iff_eq] at h
  rintro ⟨h1, h2⟩
  rcases h with h | h
  · rw [h1] at h; cases h
  · exact h2 h
theorem rn_putI {ix ci j : Nat} (hc : am_cd z pc = some (.putfield ix)) (hf : am_fl (am_own z) ix = some (ci, j)) (ho : am_fo z ci j = true) (hk : am_fk ci j = 0) : am_rn call z pc ls st M X = am_popI st fun x st => am_popP st fun l st => am_chk X l ci (am_rn call z (pc + 3) ls st (am_set M l j x) X) := by
  rw [am_rn_eq hc]; simp only [am_ex, hf, hk, am_fo_ok ho, if_false, am_pc, if_true, Nat.zero_ne_add_one, show ¬ (0 : Nat) = 3 by decide]
theorem rn_putK {ix ci j k : Nat} (hc : am_cd z pc = some (.putfield ix)) (hf : am_fl (am_own z) ix = some (ci, j)) (ho : am_fo z ci j = true) (hk : am_fk ci j = k) (h3 : (k == 3) = false) : am_rn call z pc ls st M X = am_popI st fun x st => am_popP st fun l st => am_chk X l ci (if am_pc k x = true then am_rn call z (pc + 3) ls st (am_set M l j x) X else none) := by
  have h3 : ¬ k = 3 := by simpa using h3
  rw [am_rn_eq hc]; simp only [am_ex, hf, hk, am_fo_ok ho, if_false, h3]
theorem rn_putP {ix ci j : Nat} (hc : am_cd z pc = some (.putfield ix)) (hf : am_fl (am_own z) ix = some (ci, j)) (ho : am_fo z ci j = true) (hk : am_fk ci j = 3) : am_rn call z pc ls st M X = am_popP st fun v st => am_popP st fun l st => am_chk X l ci (if am_al X.2.1 v = true then am_rn call z (pc + 3) ls st M (am_setT X.1 l j (some v), X.2) else none) := by
  rw [am_rn_eq hc]; simp only [am_ex, hf, hk, am_fo_ok ho, if_false, if_true]
/-- behind a call in a method without a handler -/
def am_b1 {α : Type} (r : Option am_R) (K : Option am_V → am_M → am_X → Option am_R) : Option am_R := match r with
  | none => none
  | some (.inl v, M, X) => K v M X
  | some (.inr E, M, X) => some (.inr E, M, X)
theorem am_bk_b1 (hh : am_hs z = [] ∧ am_tr z = true) {r : Option am_R} {K : Nat → am_S → List am_V → am_M → am_X → Option am_R} : am_bk z pc ls st r K some = am_b1 (α := Unit) r fun v M X => K (pc + 3) ls (v.toList ++ st) M X := by
  unfold am_bk am_b1
  split
  · rfl
  · rfl
  · simp [am_hd, hh.1, hh.2, am_hf]
theorem rn_invV {ix y n o : Nat} (hc : am_cd z pc = some (.invokevirtual ix)) (hm : am_ml (am_own z) ix = some (0, y)) (hn : am_na y = n) (ho : am_own y = o) (hh : am_hs z = [] ∧ am_tr z = true) : am_rn call z pc ls st M X = am_popN n [] st fun as st => am_popP st fun l st => am_sm st (am_chk X l o (am_b1 (α := Unit) (call y (.inr (some l) :: as) M X) fun v M X => am_rn call z (pc + 3) ls (v.toList ++ st) M X)) := by
  subst hn; subst ho
  rw [am_rn_eq hc]; simp only [am_ex, hm, am_inv, am_bk_b1 hh]
theorem rn_invI {ix y n o k : Nat} (hc : am_cd z pc = some (.invokespecial ix)) (hm : am_ml (am_own z) ix = some (k, y)) (h2 : k = 2 ∨ k = 3) (hn : am_na y = n) (ho : am_own y = o) (hh : am_hs z = [] ∧ am_tr z = true) : am_rn call z pc ls st M X = am_popN n [] st fun as st => am_popP st fun l st => am_sm st (am_chk X l o (am_b1 (α := Unit) (call y (.inr (some l) :: as) M X) fun v M X => am_rn call z (pc + 3) ls (v.toList ++ st) M X)) := by
  subst hn; subst ho
  rw [am_rn_eq hc]
  rcases h2 with rfl | rfl <;> simp only [am_ex, hm, am_inv, am_bk_b1 hh]
theorem rn_invS {ix y n k : Nat} (hc : am_cd z pc = some (.invokestatic ix)) (hm : am_ml (am_own z) ix = some (k, y)) (h2 : k = 1 ∨ k = 4) (hn : am_na y = n) (hh : am_hs z = [] ∧ am_tr z = true) : am_rn call z pc ls st M X = am_popN n [] st fun as st => am_sm st (am_b1 (α := Unit) (call y as M X) fun v M X => am_rn call z (pc + 3) ls (v.toList ++ st) M X) := by
  subst hn
  rw [am_rn_eq hc]
  rcases h2 with rfl | rfl <;> simp only [am_ex, hm, am_inv, am_bk_b1 hh]
/-- a call in a method with handlers -/
theorem rn_invH {ix y n o : Nat} (hc : am_cd z pc = some (.invokevirtual ix)) (hm : am_ml (am_own z) ix = some (0, y)) (hn : am_na y = n) (ho : am_own y = o) : am_rn call z pc ls st M X = am_popN n [] st fun as st => am_popP st fun l st => am_sm st (am_chk X l o (am_bk z pc ls st (call y (.inr (some l) :: as) M X) (am_rn call z) some)) := by
  subst hn; subst ho
  rw [am_rn_eq hc]; simp only [am_ex, hm, am_inv]
theorem rn_obj {ix y : Nat} (hc : am_cd z pc = some (.invokespecial ix)) (hm : am_ml (am_own z) ix = some (5, y)) : am_rn call z pc ls st M X = am_popP st fun _ st => am_sm st (am_rn call z (pc + 3) ls st M X) := by
  rw [am_rn_eq hc]; simp only [am_ex, hm, am_inv]
theorem rn_min {ix y : Nat} (hc : am_cd z pc = some (.invokestatic ix)) (hm : am_ml (am_own z) ix = some (6, y)) : am_rn call z pc ls st M X = am_popI st fun y st => am_popI st fun x st => am_sm st (am_rn call z (pc + 3) ls (.inl (.int (if y < x then y else x)) :: st) M X) := by
  rw [am_rn_eq hc]; simp only [am_ex, hm, am_inv]
def am_cpy {α : Type} (M : am_M) (X : am_X) (a0 a : am_L) (sp dp n : Int32) (f : am_M → Option α) : Option α :=
  if a ≠ a0 ∧ am_al X.2.1 a = true ∧ am_al X.2.1 a0 = true ∧ (am_kd a).1 = 1 ∧ (am_kd a0).1 = 1 ∧ ¬ sp < 0 ∧ ¬ dp < 0 ∧ ¬ n < 0 ∧ sp.toNatClampNeg + n.toNatClampNeg ≤ (am_kd a0).2.1 ∧ dp.toNatClampNeg + n.toNatClampNeg ≤ (am_kd a).2.1
      then f (am_cp M a0 a sp.toNatClampNeg dp.toNatClampNeg n.toNatClampNeg) else none
theorem rn_copy {ix y : Nat} (hc : am_cd z pc = some (.invokestatic ix)) (hm : am_ml (am_own z) ix = some (7, y)) : am_rn call z pc ls st M X = am_popI st fun n st => am_popI st fun dp st => am_popP st fun a st => am_popI st fun sp st => am_popP st fun a0 st => am_sm st (am_cpy M X a0 a sp dp n fun M => am_rn call z (pc + 3) ls st M X) := by
  rw [am_rn_eq hc]; simp only [am_ex, hm, am_inv, am_cpy]
theorem rn_new {ix ci n c : Nat} (hX : X.2.1 = some c) (hc : am_cd z pc = some (.new ix)) (hm : am_nw (am_own z) ix = some (.inl ci)) (hn : am_cN ci = n) : am_rn call z pc ls st M X = am_nu X (0, ci, 0) n fun l X => am_rn call z (pc + 3) ls (.inr (some l) :: st) M X := by
  subst hn
  rw [am_rn_eq hc]; simp only [am_ex, hm]
  rw [if_neg (fun q => by rw [hX] at q; exact absurd q.2.1 (by simp))]
theorem rn_anew {ix ci : Nat} (hc : am_cd z pc = some (.anewarray ix)) (hm : am_aw (am_own z) ix = some ci) : am_rn call z pc ls st M X = am_popI st fun c st => if c < 0 then none else am_nu X (3, ci, c.toNatClampNeg) c.toNatClampNeg fun l X => am_rn call z (pc + 3) ls (.inr (some l) :: st) M X := by
  rw [am_rn_eq hc]; simp only [am_ex, hm]
theorem rn_throw {ix E ic : Nat} (hc : am_cd z pc = some (.new ix)) (hm : am_nw (am_own z) ix = some (.inr (E, ic))) (h1 : am_cd z (pc + 3) = some .dup) (h2 : am_cd z (pc + 4) = some (.invokespecial ic)) (h3 : am_cd z (pc + 7) = some .athrow) (h4 : am_tr z = true) : am_rn call z pc ls st M X = if X.2.1 = none then am_sm st (some (.inr E, M, am_bump X)) else none := by
  rw [am_rn_eq hc]; simp only [am_ex, hm, h1, h2, h3, h4, true_and, and_true]
def am_sw {α : Type} (x : Int32) (f : Nat → Option α) (d : Option α) : Int → List Nat → Option α
  | _, [] => d
  | a, t :: ts => if x.toInt = a then f t else am_sw x f d (a + 1) ts
theorem am_sw_out {α : Type} {x : Int32} {f : Nat → Option α} {d : Option α} : ∀ (ts : List Nat) (a : Int), x.toInt < a ∨ a + ts.length ≤ x.toInt → am_sw x f d a ts = d
  | [], _, _ => rfl
  | t :: ts, a, h => by
    simp only [List.length_cons] at h
    rw [am_sw, if_neg (by omega), am_sw_out ts (a + 1) (by omega)]
theorem am_sw_in {α : Type} {x : Int32} {f : Nat → Option α} {d : Option α} : ∀ (ts : List Nat) (a : Int) (k : Nat), x.toInt = a + k → k < ts.length → am_sw x f d a ts = f (ts.getD k 0)
  | [], _, _, _, h => by simp at h
  | t :: ts, a, 0, h, _ => by rw [am_sw, if_pos (by omega)]; rfl
  | t :: ts, a, k + 1, h, hk => by
    simp only [List.length_cons] at hk
    rw [am_sw, if_neg (by omega), am_sw_in ts (a + 1) k (by omega) (by omega)]
    rfl
def am_tsok (pc : Nat) (d lo hi : Int) (os : Array Int) (td : Nat) (ts : List Nat) : Bool := decide ((pc : Int) + d = td) && decide (hi + 1 = lo + ts.length) && decide (os.toList.map (fun o => (pc : Int) + o) = ts.map (fun (t : Nat) => (t : Int)))
theorem rn_ts {d lo hi : Int} {os : Array Int} {td : Nat} {ts : List Nat} (hc : am_cd z pc = some (.tableswitch d lo hi os)) (hok : am_tsok pc d lo hi os td ts = true) : am_rn call z pc ls st M X = am_popI st fun x st => am_sw x (fun t => am_rn call z t ls st M X) (am_rn call z td ls st M X) lo ts := by
  simp only [am_tsok, Bool.and_eq_true, decide_eq_true_eq] at hok
  obtain ⟨⟨h1, h2⟩, h3⟩ := hok
  rw [am_rn_eq hc]
  dsimp only [am_ex]
  congr 1
  funext x st
  by_cases hx : x.toInt < lo ∨ hi < x.toInt
  · rw [if_pos hx, am_j_t h1, am_sw_out ts lo (by omega)]
  · rw [if_neg hx]
    have hk : (x.toInt - lo).toNat < ts.length := by omega
    rw [am_sw_in ts lo (x.toInt - lo).toNat (by omega) hk]
    have h4 := congrArg (fun l => l[(x.toInt - lo).toNat]?) h3
    simp only [List.getElem?_map, Array.getElem?_toList] at h4
    rw [List.getElem?_eq_getElem hk] at h4
    cases ho : os[(x.toInt - lo).toNat]? with
    | none => rw [ho] at h4; cases h4
    | some o =>
      rw [ho] at h4
      simp only [Option.map_some, Option.some.injEq] at h4
      dsimp only
      rw [am_j_t h4, List.getD_eq_getElem?_getD, List.getElem?_eq_getElem hk]
      rfl
def am_lk {α : Type} (x : Int32) (f : Nat → Option α) (d : Option α) : List (Int × Nat) → Option α
  | [] => d
  | q :: ts => if x.toInt = q.1 then f q.2 else am_lk x f d ts
theorem am_lk_of {x : Int32} {pc td : Nat} {d : Int} (h1 : (pc : Int) + d = td) {α : Type} (f : Nat → Option α) : ∀ (ps : List (Int × Int)) (ts : List (Int × Nat)), ps.map (fun q => (q.1, (pc : Int) + q.2)) = ts.map (fun q => (q.1, (q.2 : Int))) → am_j pc (Op.lookupswitch.offset ps d x.toInt) f = am_lk x f (f td) ts
  | [], [], _ => by
    show am_j pc d f = f td
    exact am_j_t h1 f
  | [], _ :: _, h => by simp at h
  | _ :: _, [], h => by simp at h
  | (a, o) :: ps, (b, t) :: ts, h => by
    simp only [List.map_cons, List.cons.injEq, Prod.mk.injEq] at h
    obtain ⟨⟨h2, h3⟩, h4⟩ := h
    subst h2
    by_cases hx : x.toInt = a
    · rw [am_lk, if_pos hx]
      have e : Op.lookupswitch.offset ((a, o) :: ps) d x.toInt = o := by simp [Op.lookupswitch.offset, hx]
      rw [e]
      exact am_j_t h3 f
    · rw [am_lk, if_neg hx, ← am_lk_of h1 f ps ts h4]
      congr 1
      simp [Op.lookupswitch.offset, Ne.symm hx]
theorem rn_ls {d : Int} {ps : Array (Int × Int)} {td : Nat} {ts : List (Int × Nat)} (hc : am_cd z pc = some (.lookupswitch d ps)) (h0 : (ps.toList.zip (ps.toList.drop 1)).all (fun (a, next) => a.1 < next.1) = true) (h1 : (pc : Int) + d = (td : Int)) (h2 : ps.toList.map (fun q => (q.1, (pc : Int) + q.2)) = ts.map (fun q => (q.1, (q.2 : Int)))) : am_rn call z pc ls st M X = am_popI st fun x st => am_lk x (fun t => am_rn call z t ls st M X) (am_rn call z td ls st M X) ts := by
  rw [am_rn_eq hc]
  dsimp only [am_ex]
  congr 1
  funext x st
  rw [if_pos h0, am_lk_of h1 _ _ _ h2]
end AmRows
