/-! ROWS IN NORMAL FORM: one instruction on stacks and locals that are written out, behind the making of the objects -/
abbrev am_W4 : Type := Nat × Nat × Option (Nat → Int64) × Option (List Nat)
def am_T1 (l : am_L) (j : Nat) : Option am_L := match l.1 with
  | 3 => (match j with | 0 => some (13, 0, 0) | 1 => some (13, 1, 0) | 2 => some (13, 2, 0) | 4 => some (4, 0, 0) | 5 => some (6, 0, 0) | 6 => some (7, 0, 0) | 7 => some (8, 0, 0) | 9 => some (12, 0, 0) | _ => none)
  | 4 => (match j with | 0 => some (5, 0, 0) | _ => none)
  | 5 => if j < 9 then some (13, j + 3, 0) else none
  | 8 => (match j with | 0 => some (9, 0, 0) | 2 => some (10, 0, 0) | _ => none)
  | 10 => if j < 20 then some (11, 0, j) else none
  | 13 => (match j with | 2 => some (14, l.2.1, 0) | 3 => some (15, l.2.1, 0) | 4 => some (16, l.2.1, 0) | 6 => some (17, l.2.1, 0) | 8 => some (18, l.2.1, 0) | 9 => some (20, l.2.1, 0) | _ => none)
  | 14 => if j < 6 then some (21, l.2.1, j) else none
  | 15 => if j < 5 then some (23, l.2.1, j) else none
  | 17 => if j < 16 then some (24, l.2.1, j) else none
  | 21 => (match j with | 7 => some (22, l.2.1, l.2.2) | _ => none)
  | 24 => (match j with | 9 => some (25, l.2.1, l.2.2) | _ => none)
  | _ => none
/-- where the references lead, when all is made -/
def am_T0 : am_T := fun l j => if am_ok l = true then am_T1 l j else none
abbrev am_Z (w : am_W4) : am_X := (am_T0, none, w)
def am_bw (w : am_W4) : am_W4 := (w.1 + 1, w.2.1 + 6, w.2.2)
theorem am_bump_Z (w : am_W4) : am_bump (am_Z w) = am_Z (am_bw w) := rfl
theorem am_T0_eq {l : am_L} {j : Nat} (h : am_ok l = true) : am_T0 l j = am_T1 l j := if_pos h
/-- an index that a row of n places has -/
abbrev am_in (i : Int32) (n : Nat) : Prop := ¬ (i < 0 ∨ n ≤ i.toNatClampNeg)
theorem am_in_lt' {i : Int32} {n : Nat} (h : am_in i n) : i.toNatClampNeg < n := Nat.not_le.mp fun q => h (Or.inr q)
def am_ck (l : am_L) (ci : Nat) : Prop := am_ok l = true ∧ am_kd l = (0, ci, 0)
def am_ka (l : am_L) (k n b : Nat) : Prop := am_ok l = true ∧ am_kd l = (k, n, b)
theorem am_oke {t n k N K : Nat} (h : am_ok (t, n, k) = (decide (n < N) && decide (k < K))) (hn : n < N) (hk : k < K) : am_ok (t, n, k) = true := by rw [h, decide_eq_true hn, decide_eq_true hk]; rfl
theorem ck3 : am_ck (3, 0, 0) 8 := ⟨rfl, rfl⟩
theorem ck4 : am_ck (4, 0, 0) 3 := ⟨rfl, rfl⟩
theorem ck6 : am_ck (6, 0, 0) 6 := ⟨rfl, rfl⟩
theorem ck7 : am_ck (7, 0, 0) 0 := ⟨rfl, rfl⟩
theorem ck8 : am_ck (8, 0, 0) 1 := ⟨rfl, rfl⟩
theorem ck11 {k : Nat} (hk : k < 20) : am_ck (11, 0, k) 0 := ⟨by show (true && decide (k < 20)) = true; rw [decide_eq_true hk]; rfl, rfl⟩
theorem am_okN {t n : Nat} (h : am_ok (t, n, 0) = (decide (n < 12) && true)) (hn : n < 12) : am_ok (t, n, 0) = true := by rw [h, decide_eq_true hn]; rfl
theorem ck13 {n : Nat} (hn : n < 12) : am_ck (13, n, 0) 5 := ⟨am_okN rfl hn, rfl⟩
theorem ck21 {n k : Nat} (hn : n < 12) (hk : k < 6) : am_ck (21, n, k) 2 := ⟨am_oke rfl hn hk, rfl⟩
theorem ck23 {n k : Nat} (hn : n < 12) (hk : k < 5) : am_ck (23, n, k) 7 := ⟨am_oke rfl hn hk, rfl⟩
theorem ck24 {n k : Nat} (hn : n < 12) (hk : k < 16) : am_ck (24, n, k) 4 := ⟨am_oke rfl hn hk, rfl⟩
theorem ka5 : am_ka (5, 0, 0) 3 5 9 := ⟨rfl, rfl⟩
theorem ka9 : am_ka (9, 0, 0) 2 60 0 := ⟨rfl, rfl⟩
theorem ka10 : am_ka (10, 0, 0) 3 0 20 := ⟨rfl, rfl⟩
theorem ka12 : am_ka (12, 0, 0) 2 14 0 := ⟨rfl, rfl⟩
theorem ka14 {n : Nat} (hn : n < 12) : am_ka (14, n, 0) 3 2 6 := ⟨am_okN rfl hn, rfl⟩
theorem ka15 {n : Nat} (hn : n < 12) : am_ka (15, n, 0) 3 7 5 := ⟨am_okN rfl hn, rfl⟩
theorem ka16 {n : Nat} (hn : n < 12) : am_ka (16, n, 0) 1 9 0 := ⟨am_okN rfl hn, rfl⟩
theorem ka17 {n : Nat} (hn : n < 12) : am_ka (17, n, 0) 3 4 16 := ⟨am_okN rfl hn, rfl⟩
theorem ka18 {n : Nat} (hn : n < 12) : am_ka (18, n, 0) 1 16 0 := ⟨am_okN rfl hn, rfl⟩
theorem ka20 {n : Nat} (hn : n < 12) : am_ka (20, n, 0) 1 8 0 := ⟨am_okN rfl hn, rfl⟩
theorem ka22 {n k : Nat} (hn : n < 12) (hk : k < 6) : am_ka (22, n, k) 1 16 0 := ⟨am_oke rfl hn hk, rfl⟩
theorem ka25 {n k : Nat} (hn : n < 12) (hk : k < 16) : am_ka (25, n, k) 1 8 0 := ⟨am_oke rfl hn hk, rfl⟩
/-- where a reference leads: at an object, and in a row of references -/
theorem am_tf {l : am_L} {j ci : Nat} {v : am_L} (h : am_ck l ci) (h1 : am_T1 l j = some v) : am_T0 l j = some v := (am_T0_eq h.1).trans h1
theorem am_ta {l : am_L} {j k a b : Nat} {v : am_L} (h : am_ka l k a b) (h1 : am_T1 l j = some v) : am_T0 l j = some v := (am_T0_eq h.1).trans h1
theorem am_n0 : (0 : Nat) < 12 := by decide
theorem am_n1 : (1 : Nat) < 12 := by decide
theorem am_n2 : (2 : Nat) < 12 := by decide
theorem am_n9 {i : Int32} (h : am_in i 9) : i.toNatClampNeg + 3 < 12 := by have := am_in_lt' h; omega
theorem am_ite {α : Sort _} {c : Prop} {d : Decidable c} {a a' b b' : α} (h1 : c → a = a') (h2 : ¬ c → b = b') : @ite α c d a b = @ite α c d a' b' := by
  by_cases h : c
  · rw [if_pos h, if_pos h]; exact h1 h
  · rw [if_neg h, if_neg h]; exact h2 h
theorem am_get_of0 {α : Type} {f : am_V → Option α} {v : am_V} : ∀ (ls : am_S) (i : Nat), ls[i]? = some (some v) → am_get ls i f = f v
  | [], _, h => by simp at h
  | none :: _, 0, h => by simp at h
  | some w :: _, 0, h => by
    simp only [List.getElem?_cons_zero, Option.some.injEq] at h
    rw [h]; rfl
  | none :: l, i + 1, h => am_get_of0 l i h
  | some _ :: l, i + 1, h => am_get_of0 l i h
theorem am_get_of {α : Type} {f : am_V → Option α} {v : am_V} {ls : am_S} {i : Nat} (h : ls[i]? = some (some v)) : am_get ls i f = f v := am_get_of0 ls i h
/-- a value of one slot -/
def am_1 (v : am_V) : Bool := match v with
  | .inl (.int _) => true
  | .inr (some _) => true
  | _ => false
theorem am_pop1_of {α : Type} {v : am_V} {st : List am_V} {f : am_V → List am_V → Option α} (h : am_1 v = true) : am_pop1 (v :: st) f = f v st := by
  unfold am_1 at h
  split at h
  · rfl
  · rfl
  · cases h
def am_sb (st : List am_V) : Bool := match st with
  | [] => true | [_] => true | [_, _] => true | [_, _, _] => true | [_, _, _, _] => true
  | _ => false
theorem am_sm_of {α : Type} {st : List am_V} {x : Option α} (h : am_sb st = true) : am_sm st x = x := by
  unfold am_sb at h
  split at h
  · rfl
  · rfl
  · rfl
  · rfl
  · rfl
  · cases h
/-- behind a call in a method without a handler -/
def am_cb (r : Option am_R) (K : Option am_V → am_M → am_X → Option am_R) : Option am_R := match r with
  | none => none
  | some (.inl v, M, X) => K v M X
  | some (.inr E, M, X) => some (.inr E, M, X)
section AmRL
variable {call : Nat → List am_V → am_M → am_X → Option am_R} {z pc : Nat} {ls : am_S} {st : List am_V} {M : am_M} {X : am_X} {w : am_W4} {x y : Int32} {l : am_L}
theorem rl_iloadn {j : Fin 4} (hc : am_cd z pc = some (.iload_n j)) (hg : ls[j.val]? = some (some (am_I x))) : am_rn call z pc ls st M X = am_rn call z (pc + 1) ls (am_I x :: st) M X := by
  rw [am_rn_eq hc]; simp only [am_ex]; rw [am_get_of hg]; rfl
theorem rl_iload {j : Nat} (hc : am_cd z pc = some (.iload j)) (hg : ls[j]? = some (some (am_I x))) : am_rn call z pc ls st M X = am_rn call z (pc + 2) ls (am_I x :: st) M X := by
  rw [am_rn_eq hc]; simp only [am_ex]; rw [am_get_of hg]; rfl
theorem rl_aloadn {j : Fin 4} (hc : am_cd z pc = some (.aload_n j)) (hg : ls[j.val]? = some (some (am_P l))) : am_rn call z pc ls st M X = am_rn call z (pc + 1) ls (am_P l :: st) M X := by
  rw [am_rn_eq hc]; simp only [am_ex]; rw [am_get_of hg]; rfl
theorem rl_aload {j : Nat} (hc : am_cd z pc = some (.aload j)) (hg : ls[j]? = some (some (am_P l))) : am_rn call z pc ls st M X = am_rn call z (pc + 2) ls (am_P l :: st) M X := by
  rw [am_rn_eq hc]; simp only [am_ex]; rw [am_get_of hg]; rfl
theorem rl_fload {j : Nat} {x : UInt32} (hc : am_cd z pc = some (.fload j)) (hg : ls[j]? = some (some (.inl (.float x)))) : am_rn call z pc ls st M X = am_rn call z (pc + 2) ls (.inl (.float x) :: st) M X := by
  rw [am_rn_eq hc]; simp only [am_ex]; rw [am_get_of hg]; rfl
theorem rl_dload {j : Nat} {x : UInt64} (hc : am_cd z pc = some (.dload j)) (hg : ls[j]? = some (some (.inl (.double x)))) : am_rn call z pc ls st M X = am_rn call z (pc + 2) ls (.inl (.double x) :: st) M X := by
  rw [am_rn_eq hc]; simp only [am_ex]; rw [am_get_of hg]; rfl
theorem rl_istoren {j : Fin 4} (hc : am_cd z pc = some (.istore_n j)) (hl : decide (j.val < ls.length) = true) {ls' : am_S} (hp : am_put ls j.val (some (am_I x)) = ls') : am_rn call z pc ls (am_I x :: st) M X = am_rn call z (pc + 1) ls' st M X := by
  rw [am_rn_eq hc]; simp only [am_ex, am_popI]; rw [if_pos (of_decide_eq_true hl), hp]
theorem rl_istore {j : Nat} (hc : am_cd z pc = some (.istore j)) (hl : decide (j < ls.length) = true) {ls' : am_S} (hp : am_put ls j (some (am_I x)) = ls') : am_rn call z pc ls (am_I x :: st) M X = am_rn call z (pc + 2) ls' st M X := by
  rw [am_rn_eq hc]; simp only [am_ex, am_popI]; rw [if_pos (of_decide_eq_true hl), hp]
theorem rl_astoren {j : Fin 4} (hc : am_cd z pc = some (.astore_n j)) (hl : decide (j.val < ls.length) = true) {ls' : am_S} (hp : am_put ls j.val (some (am_P l)) = ls') : am_rn call z pc ls (am_P l :: st) M X = am_rn call z (pc + 1) ls' st M X := by
  rw [am_rn_eq hc]; simp only [am_ex, am_popP]; rw [if_pos (of_decide_eq_true hl), hp]
theorem rl_astore {j : Nat} (hc : am_cd z pc = some (.astore j)) (hl : decide (j < ls.length) = true) {ls' : am_S} (hp : am_put ls j (some (am_P l)) = ls') : am_rn call z pc ls (am_P l :: st) M X = am_rn call z (pc + 2) ls' st M X := by
  rw [am_rn_eq hc]; simp only [am_ex, am_popP]; rw [if_pos (of_decide_eq_true hl), hp]
theorem rl_fstore {j : Nat} {x : UInt32} (hc : am_cd z pc = some (.fstore j)) (hl : decide (j < ls.length) = true) {ls' : am_S} (hp : am_put ls j (some (.inl (.float x))) = ls') : am_rn call z pc ls (.inl (.float x) :: st) M X = am_rn call z (pc + 2) ls' st M X := by
  rw [am_rn_eq hc]; simp only [am_ex, am_popF]; rw [if_pos (of_decide_eq_true hl), hp]
theorem rl_dstore {j : Nat} {x : UInt64} (hc : am_cd z pc = some (.dstore j)) (hl : decide (j + 1 < ls.length) = true) {ls' : am_S} (hp : am_put2 ls j (.inl (.double x)) = ls') : am_rn call z pc ls (.inl (.double x) :: st) M X = am_rn call z (pc + 2) ls' st M X := by
  rw [am_rn_eq hc]; simp only [am_ex, am_popD]; rw [if_pos (of_decide_eq_true hl), hp]
theorem rl_iinc {j : Nat} {c : Int} {k : Int32} (hc : am_cd z pc = some (.iinc j c)) (hk : Int32.ofInt c = k) (hg : ls[j]? = some (some (am_I x))) {ls' : am_S} (hp : am_put ls j (some (am_I (x + k))) = ls') : am_rn call z pc ls st M X = am_rn call z (pc + 3) ls' st M X := by
  rw [am_rn_eq hc]; simp only [am_ex]; rw [am_get_of hg, hk, ← hp]; rfl
theorem rl_iconst {c : Int} {k : Int32} (hc : am_cd z pc = some (.iconst c)) (hk : Int32.ofInt c = k) : am_rn call z pc ls st M X = am_rn call z (pc + 1) ls (am_I k :: st) M X := by
  rw [am_rn_eq hc]; simp only [am_ex]; rw [hk]
theorem rl_bipush {c : Int} {k : Int32} (hc : am_cd z pc = some (.bipush c)) (hk : (Int8.ofInt c).toInt32 = k) : am_rn call z pc ls st M X = am_rn call z (pc + 2) ls (am_I k :: st) M X := by
  rw [am_rn_eq hc]; simp only [am_ex]; rw [hk]
theorem rl_sipush {c : Int} {k : Int32} (hc : am_cd z pc = some (.sipush c)) (hk : (Int16.ofInt c).toInt32 = k) : am_rn call z pc ls st M X = am_rn call z (pc + 3) ls (am_I k :: st) M X := by
  rw [am_rn_eq hc]; simp only [am_ex]; rw [hk]
theorem rl_ldc {ix : Nat} {k : Int32} (hc : am_cd z pc = some (.ldc ix)) (hk : am_kc (am_own z) ix = some k) : am_rn call z pc ls st M X = am_rn call z (pc + 2) ls (am_I k :: st) M X := by
  rw [am_rn_eq hc]; simp only [am_ex, hk]; rfl
theorem rl_lconst {c : Fin 2} {k : Int64} (hc : am_cd z pc = some (.lconst c)) (hk : Int64.ofNat c.val = k) : am_rn call z pc ls st M X = am_rn call z (pc + 1) ls (.inl (.long k) :: st) M X := by
  rw [am_rn_eq hc]; simp only [am_ex]; rw [hk]
theorem rl_iadd (hc : am_cd z pc = some .iadd) : am_rn call z pc ls (am_I y :: am_I x :: st) M X = am_rn call z (pc + 1) ls (am_I (x + y) :: st) M X := by
  rw [am_rn_eq hc]; simp only [am_ex, am_popI]
theorem rl_isub (hc : am_cd z pc = some .isub) : am_rn call z pc ls (am_I y :: am_I x :: st) M X = am_rn call z (pc + 1) ls (am_I (x - y) :: st) M X := by
  rw [am_rn_eq hc]; simp only [am_ex, am_popI]
theorem rl_imul (hc : am_cd z pc = some .imul) : am_rn call z pc ls (am_I y :: am_I x :: st) M X = am_rn call z (pc + 1) ls (am_I (x * y) :: st) M X := by
  rw [am_rn_eq hc]; simp only [am_ex, am_popI]
theorem rl_iand (hc : am_cd z pc = some .iand) : am_rn call z pc ls (am_I y :: am_I x :: st) M X = am_rn call z (pc + 1) ls (am_I (x &&& y) :: st) M X := by
  rw [am_rn_eq hc]; simp only [am_ex, am_popI]
theorem rl_ior (hc : am_cd z pc = some .ior) : am_rn call z pc ls (am_I y :: am_I x :: st) M X = am_rn call z (pc + 1) ls (am_I (x ||| y) :: st) M X := by
  rw [am_rn_eq hc]; simp only [am_ex, am_popI]
theorem rl_ishl (hc : am_cd z pc = some .ishl) : am_rn call z pc ls (am_I y :: am_I x :: st) M X = am_rn call z (pc + 1) ls (am_I (x <<< (y &&& 31)) :: st) M X := by
  rw [am_rn_eq hc]; simp only [am_ex, am_popI]
theorem rl_ishr (hc : am_cd z pc = some .ishr) : am_rn call z pc ls (am_I y :: am_I x :: st) M X = am_rn call z (pc + 1) ls (am_I (x >>> (y &&& 31)) :: st) M X := by
  rw [am_rn_eq hc]; simp only [am_ex, am_popI]
theorem rl_idiv (hc : am_cd z pc = some .idiv) (h0 : decide (y = 0) = false) : am_rn call z pc ls (am_I y :: am_I x :: st) M X = am_rn call z (pc + 1) ls (am_I (x / y) :: st) M X := by
  rw [am_rn_eq hc]; simp only [am_ex, am_popI]; rw [if_neg (of_decide_eq_false h0)]
theorem rl_irem (hc : am_cd z pc = some .irem) (h0 : decide (y = 0) = false) : am_rn call z pc ls (am_I y :: am_I x :: st) M X = am_rn call z (pc + 1) ls (am_I (x - x / y * y) :: st) M X := by
  rw [am_rn_eq hc]; simp only [am_ex, am_popI]; rw [if_neg (of_decide_eq_false h0)]
theorem rl_i2l (hc : am_cd z pc = some .i2l) : am_rn call z pc ls (am_I x :: st) M X = am_rn call z (pc + 1) ls (.inl (.long x.toInt64) :: st) M X := by
  rw [am_rn_eq hc]; simp only [am_ex, am_popI]
theorem rl_i2c (hc : am_cd z pc = some .i2c) : am_rn call z pc ls (am_I x :: st) M X = am_rn call z (pc + 1) ls (am_I (x.toUInt32 % 65536).toInt32 :: st) M X := by
  rw [am_rn_eq hc]; simp only [am_ex, am_popI]
theorem rl_i2f (hc : am_cd z pc = some .i2f) : am_rn call z pc ls (am_I x :: st) M X = am_rn call z (pc + 1) ls (.inl (.float (FP.i2f x)) :: st) M X := by
  rw [am_rn_eq hc]; simp only [am_ex, am_popI]
theorem rl_i2d (hc : am_cd z pc = some .i2d) : am_rn call z pc ls (am_I x :: st) M X = am_rn call z (pc + 1) ls (.inl (.double (FP.i2d x)) :: st) M X := by
  rw [am_rn_eq hc]; simp only [am_ex, am_popI]
theorem rl_f2d {x : UInt32} (hc : am_cd z pc = some .f2d) : am_rn call z pc ls (.inl (.float x) :: st) M X = if FP.f2d x &&& 0x7fffffffffffffff ≤ 0x7ff0000000000000 then am_rn call z (pc + 1) ls (.inl (.double (FP.f2d x)) :: st) M X else none := by
  rw [am_rn_eq hc]; simp only [am_ex, am_popF]
theorem rl_fdiv {x y : UInt32} (hc : am_cd z pc = some .fdiv) : am_rn call z pc ls (.inl (.float y) :: .inl (.float x) :: st) M X = if FP.fdiv x y &&& 0x7fffffff ≤ 0x7f800000 then am_rn call z (pc + 1) ls (.inl (.float (FP.fdiv x y)) :: st) M X else none := by
  rw [am_rn_eq hc]; simp only [am_ex, am_popF]
theorem rl_ddiv {x y : UInt64} (hc : am_cd z pc = some .ddiv) : am_rn call z pc ls (.inl (.double y) :: .inl (.double x) :: st) M X = if FP.ddiv x y &&& 0x7fffffffffffffff ≤ 0x7ff0000000000000 then am_rn call z (pc + 1) ls (.inl (.double (FP.ddiv x y)) :: st) M X else none := by
  rw [am_rn_eq hc]; simp only [am_ex, am_popD]
theorem rl_lcmp {x y : Int64} (hc : am_cd z pc = some .lcmp) : am_rn call z pc ls (.inl (.long y) :: .inl (.long x) :: st) M X = am_rn call z (pc + 1) ls (am_I (lg_cmp x y) :: st) M X := by
  rw [am_rn_eq hc]; simp only [am_ex, am_popJ]
theorem rl_fcmp {op : CmpOp} {x y : UInt32} (hc : am_cd z pc = some (.fcmp op)) : am_rn call z pc ls (.inl (.float y) :: .inl (.float x) :: st) M X = am_rn call z (pc + 1) ls (am_I (Op.cmpValue (FP.fcmp x y) op) :: st) M X := by
  rw [am_rn_eq hc]; simp only [am_ex, am_popF]
theorem rl_dcmp {op : CmpOp} {x y : UInt64} (hc : am_cd z pc = some (.dcmp op)) : am_rn call z pc ls (.inl (.double y) :: .inl (.double x) :: st) M X = am_rn call z (pc + 1) ls (am_I (Op.cmpValue (FP.dcmp x y) op) :: st) M X := by
  rw [am_rn_eq hc]; simp only [am_ex, am_popD]
theorem rl_dup {v : am_V} (hc : am_cd z pc = some .dup) (hv : am_1 v = true) : am_rn call z pc ls (v :: st) M X = am_rn call z (pc + 1) ls (v :: v :: st) M X := by
  rw [am_rn_eq hc]; simp only [am_ex]; rw [am_pop1_of hv]
theorem rl_pop {v : am_V} (hc : am_cd z pc = some .pop) (hv : am_1 v = true) : am_rn call z pc ls (v :: st) M X = am_rn call z (pc + 1) ls st M X := by
  rw [am_rn_eq hc]; simp only [am_ex]; rw [am_pop1_of hv]
theorem rl_dup2 {v u : am_V} (hc : am_cd z pc = some .dup2) (hv : am_1 v = true) (hu : am_1 u = true) : am_rn call z pc ls (v :: u :: st) M X = am_rn call z (pc + 1) ls (v :: u :: v :: u :: st) M X := by
  rw [am_rn_eq hc]; simp only [am_ex]; rw [am_pop1_of hv, am_pop1_of hu]
theorem rl_dup_x1 {v u : am_V} (hc : am_cd z pc = some .dup_x1) (hv : am_1 v = true) (hu : am_1 u = true) : am_rn call z pc ls (v :: u :: st) M X = am_rn call z (pc + 1) ls (v :: u :: v :: st) M X := by
  rw [am_rn_eq hc]; simp only [am_ex]; rw [am_pop1_of hv, am_pop1_of hu]
theorem rl_dup_x2 {v u t : am_V} (hc : am_cd z pc = some .dup_x2) (hv : am_1 v = true) (hu : am_1 u = true) (ht : am_1 t = true) : am_rn call z pc ls (v :: u :: t :: st) M X = am_rn call z (pc + 1) ls (v :: u :: t :: v :: st) M X := by
  rw [am_rn_eq hc]; simp only [am_ex]; rw [am_pop1_of hv, am_pop1_of hu, am_pop1_of ht]
theorem rl_goto {o : Int} (t : Nat) (hc : am_cd z pc = some (.goto o)) (ht : (pc : Int) + o = (t : Int)) : am_rn call z pc ls st M X = am_rn call z t ls st M X := rn_goto hc ht
theorem rl_ifeq {o : Int} (t : Nat) (hc : am_cd z pc = some (.ifCond .eq o)) (ht : (pc : Int) + o = (t : Int)) : am_rn call z pc ls (am_I x :: st) M X = if x = 0 then am_rn call z t ls st M X else am_rn call z (pc + 3) ls st M X := rn_ifeq hc ht
theorem rl_ifne {o : Int} (t : Nat) (hc : am_cd z pc = some (.ifCond .ne o)) (ht : (pc : Int) + o = (t : Int)) : am_rn call z pc ls (am_I x :: st) M X = if x = 0 then am_rn call z (pc + 3) ls st M X else am_rn call z t ls st M X := rn_ifne hc ht
theorem rl_iflt {o : Int} (t : Nat) (hc : am_cd z pc = some (.ifCond .lt o)) (ht : (pc : Int) + o = (t : Int)) : am_rn call z pc ls (am_I x :: st) M X = if x < 0 then am_rn call z t ls st M X else am_rn call z (pc + 3) ls st M X := rn_iflt hc ht
theorem rl_ifge {o : Int} (t : Nat) (hc : am_cd z pc = some (.ifCond .ge o)) (ht : (pc : Int) + o = (t : Int)) : am_rn call z pc ls (am_I x :: st) M X = if x < 0 then am_rn call z (pc + 3) ls st M X else am_rn call z t ls st M X := rn_ifge hc ht
theorem rl_ifgt {o : Int} (t : Nat) (hc : am_cd z pc = some (.ifCond .gt o)) (ht : (pc : Int) + o = (t : Int)) : am_rn call z pc ls (am_I x :: st) M X = if 0 < x then am_rn call z t ls st M X else am_rn call z (pc + 3) ls st M X := rn_ifgt hc ht
theorem rl_ifle {o : Int} (t : Nat) (hc : am_cd z pc = some (.ifCond .le o)) (ht : (pc : Int) + o = (t : Int)) : am_rn call z pc ls (am_I x :: st) M X = if 0 < x then am_rn call z (pc + 3) ls st M X else am_rn call z t ls st M X := rn_ifle hc ht
theorem rl_iceq {o : Int} (t : Nat) (hc : am_cd z pc = some (.if_icmp .eq o)) (ht : (pc : Int) + o = (t : Int)) : am_rn call z pc ls (am_I y :: am_I x :: st) M X = if x = y then am_rn call z t ls st M X else am_rn call z (pc + 3) ls st M X := rn_iceq hc ht
theorem rl_icne {o : Int} (t : Nat) (hc : am_cd z pc = some (.if_icmp .ne o)) (ht : (pc : Int) + o = (t : Int)) : am_rn call z pc ls (am_I y :: am_I x :: st) M X = if x = y then am_rn call z (pc + 3) ls st M X else am_rn call z t ls st M X := rn_icne hc ht
theorem rl_iclt {o : Int} (t : Nat) (hc : am_cd z pc = some (.if_icmp .lt o)) (ht : (pc : Int) + o = (t : Int)) : am_rn call z pc ls (am_I y :: am_I x :: st) M X = if x < y then am_rn call z t ls st M X else am_rn call z (pc + 3) ls st M X := rn_iclt hc ht
theorem rl_icge {o : Int} (t : Nat) (hc : am_cd z pc = some (.if_icmp .ge o)) (ht : (pc : Int) + o = (t : Int)) : am_rn call z pc ls (am_I y :: am_I x :: st) M X = if x < y then am_rn call z (pc + 3) ls st M X else am_rn call z t ls st M X := rn_icge hc ht
theorem rl_icgt {o : Int} (t : Nat) (hc : am_cd z pc = some (.if_icmp .gt o)) (ht : (pc : Int) + o = (t : Int)) : am_rn call z pc ls (am_I y :: am_I x :: st) M X = if y < x then am_rn call z t ls st M X else am_rn call z (pc + 3) ls st M X := rn_icgt hc ht
theorem rl_icle {o : Int} (t : Nat) (hc : am_cd z pc = some (.if_icmp .le o)) (ht : (pc : Int) + o = (t : Int)) : am_rn call z pc ls (am_I y :: am_I x :: st) M X = if y < x then am_rn call z (pc + 3) ls st M X else am_rn call z t ls st M X := rn_icle hc ht
theorem am_chk_of {α : Type} {ci : Nat} {v : Option α} (h : am_ck l ci) : am_chk (am_Z w) l ci v = v := by
  unfold am_chk
  exact if_pos ⟨by show (am_ok l && true) = true; rw [h.1]; rfl, h.2⟩
theorem am_arr_of {α : Type} {k a b n : Nat} {i : Int32} {f : Nat → Option α} (h : am_ka l k a b) : am_arr (am_Z w) l k a b i n f = if am_in i n then f i.toNatClampNeg else none := by
  unfold am_arr
  have h1 : am_al (am_Z w).2.1 l = true := by show (am_ok l && true) = true; rw [h.1]; rfl
  by_cases hi : am_in i n
  · rw [if_pos ⟨h1, h.2, hi⟩, if_pos hi]
  · rw [if_neg (fun q => hi q.2.2), if_neg hi]
theorem rl_get {ix ci j : Nat} (hc : am_cd z pc = some (.getfield ix)) (hf : am_fl (am_own z) ix = some (ci, j)) (hk : (am_fk ci j == 3) = false) (h : am_ck l ci) : am_rn call z pc ls (am_P l :: st) M (am_Z w) = am_rn call z (pc + 3) ls (am_I (M l j) :: st) M (am_Z w) := by
  rw [rn_getI hc hf hk]; simp only [am_popP]; rw [am_chk_of h]
theorem rl_getP {ix ci j : Nat} {v : am_L} (hc : am_cd z pc = some (.getfield ix)) (hf : am_fl (am_own z) ix = some (ci, j)) (hk : (am_fk ci j == 3) = true) (h : am_ck l ci) (hv : am_T1 l j = some v) : am_rn call z pc ls (am_P l :: st) M (am_Z w) = am_rn call z (pc + 3) ls (am_P v :: st) M (am_Z w) := by
  rw [rn_getP hc hf hk]; simp only [am_popP]; rw [am_chk_of h, am_tf h hv]
theorem rl_put {ix ci j : Nat} (hc : am_cd z pc = some (.putfield ix)) (hf : am_fl (am_own z) ix = some (ci, j)) (ho : am_fo z ci j = true) (hk : am_fk ci j = 0) (h : am_ck l ci) : am_rn call z pc ls (am_I x :: am_P l :: st) M (am_Z w) = am_rn call z (pc + 3) ls st (am_set M l j x) (am_Z w) := by
  rw [rn_putI hc hf ho hk]; simp only [am_popI, am_popP]; rw [am_chk_of h]
theorem rl_putZ {ix ci j : Nat} (hc : am_cd z pc = some (.putfield ix)) (hf : am_fl (am_own z) ix = some (ci, j)) (ho : am_fo z ci j = true) (hk : am_fk ci j = 1) (h : am_ck l ci) : am_rn call z pc ls (am_I x :: am_P l :: st) M (am_Z w) = if am_pc 1 x = true then am_rn call z (pc + 3) ls st (am_set M l j x) (am_Z w) else none := by
  rw [rn_putK hc hf ho hk rfl]; simp only [am_popI, am_popP]; rw [am_chk_of h]
theorem rl_putC {ix ci j : Nat} (hc : am_cd z pc = some (.putfield ix)) (hf : am_fl (am_own z) ix = some (ci, j)) (ho : am_fo z ci j = true) (hk : am_fk ci j = 2) (h : am_ck l ci) : am_rn call z pc ls (am_I x :: am_P l :: st) M (am_Z w) = if am_pc 2 x = true then am_rn call z (pc + 3) ls st (am_set M l j x) (am_Z w) else none := by
  rw [rn_putK hc hf ho hk rfl]; simp only [am_popI, am_popP]; rw [am_chk_of h]
theorem rl_iald {n b : Nat} (hc : am_cd z pc = some .iaload) (h : am_ka l 1 n b) : am_rn call z pc ls (am_I x :: am_P l :: st) M (am_Z w) = if am_in x n then am_rn call z (pc + 1) ls (am_I (M l x.toNatClampNeg) :: st) M (am_Z w) else none := by
  rw [am_rn_eq hc]; simp only [am_ex, am_popI, am_popP]
  have h0 : ¬ l.1 = 0 := fun q => by
    have := h.2
    unfold am_kd at this
    rw [q] at this
    cases this
  have e1 : (am_kd l).2.1 = n := by rw [h.2]
  have e2 : (0 : Nat) = b ∨ b ≠ 0 := by omega
  rw [if_neg h0, e1]
  unfold am_arr
  have h1 : am_al (am_Z w).2.1 l = true := by show (am_ok l && true) = true; rw [h.1]; rfl
  have hb : b = 0 := by
    have := h.2
    unfold am_kd at this
    split at this <;> cases this <;> rfl
  subst hb
  by_cases hi : am_in x n
  · rw [if_pos ⟨h1, h.2, hi⟩, if_pos hi]
  · rw [if_neg (fun q => hi q.2.2), if_neg hi]
theorem rl_sald (hc : am_cd z pc = some .iaload) : am_rn call z pc ls (am_I x :: am_P (0, 0, 0) :: st) M X = if am_in x (M (0, 0, 1) 0).toNatClampNeg then am_rn call z (pc + 1) ls (am_I (M (0, 0, 0) x.toNatClampNeg) :: st) M X else none := by
  rw [am_rn_eq hc]; simp only [am_ex, am_popI, am_popP, if_true, true_and, am_in]
theorem rl_cald {n : Nat} (hc : am_cd z pc = some .caload) (h : am_ka l 2 n 0) : am_rn call z pc ls (am_I x :: am_P l :: st) M (am_Z w) = if am_in x n then am_rn call z (pc + 1) ls (am_I (M l x.toNatClampNeg) :: st) M (am_Z w) else none := by
  rw [am_rn_eq hc]; simp only [am_ex, am_popI, am_popP]
  rw [show (am_kd l).2.1 = n by rw [h.2], am_arr_of h]
theorem rl_iast {n : Nat} (hc : am_cd z pc = some .iastore) (h : am_ka l 1 n 0) : am_rn call z pc ls (am_I y :: am_I x :: am_P l :: st) M (am_Z w) = if am_in x n then am_rn call z (pc + 1) ls st (am_set M l x.toNatClampNeg y) (am_Z w) else none := by
  rw [am_rn_eq hc]; simp only [am_ex, am_popI, am_popP]
  rw [show (am_kd l).2.1 = n by rw [h.2], am_arr_of h]
theorem rl_cast {n : Nat} (hc : am_cd z pc = some .castore) (h : am_ka l 2 n 0) : am_rn call z pc ls (am_I y :: am_I x :: am_P l :: st) M (am_Z w) = if am_in x n then am_rn call z (pc + 1) ls st (am_set M l x.toNatClampNeg (vp_nar .char y)) (am_Z w) else none := by
  rw [am_rn_eq hc]; simp only [am_ex, am_popI, am_popP]
  rw [show (am_kd l).2.1 = n by rw [h.2], am_arr_of h]
theorem rl_aald {ci n : Nat} {v : am_L} (hc : am_cd z pc = some .aaload) (h : am_ka l 3 ci n) (hv : am_in x n → am_T1 l x.toNatClampNeg = some v) : am_rn call z pc ls (am_I x :: am_P l :: st) M (am_Z w) = if am_in x n then am_rn call z (pc + 1) ls (am_P v :: st) M (am_Z w) else none := by
  rw [am_rn_eq hc]; simp only [am_ex, am_popI, am_popP]
  rw [show (am_kd l).2.1 = ci by rw [h.2], show (am_kd l).2.2 = n by rw [h.2], am_arr_of h]
  exact am_ite (fun hi => by rw [am_ta h (hv hi)]) (fun _ => rfl)
theorem rl_lald {f : Nat → Int64} (hc : am_cd z pc = some .laload) (hf : w.2.2.1 = some f) (hi : am_in x 13) : am_rn call z pc ls (am_I x :: am_P (1, 0, 0) :: st) M (am_Z w) = am_rn call z (pc + 1) ls (.inl (.long (f x.toNatClampNeg)) :: st) M (am_Z w) := by
  rw [am_rn_eq hc]; simp only [am_ex, am_popI, am_popP]
  rw [if_pos ⟨trivial, hi⟩, hf]; rfl
theorem rl_last {f : Nat → Int64} {v : Int64} (hc : am_cd z pc = some .lastore) (hf : w.2.2.1 = some f) (hs : w.2.2.2 = none) (hi : am_in x 13) : am_rn call z pc ls (.inl (.long v) :: am_I x :: am_P (1, 0, 0) :: st) M (am_Z w) = am_rn call z (pc + 1) ls st M (am_Z (w.1, w.2.1, some (fun j => if j = x.toNatClampNeg then v else f j), none)) := by
  rw [am_rn_eq hc]; simp only [am_ex, am_popI, am_popP, am_popJ]
  rw [if_pos ⟨trivial, hi, hs⟩, hf]; rfl
theorem rl_lloadn {j : Fin 4} {v : Int64} (hc : am_cd z pc = some (.lload_n j)) (hg : ls[j.val]? = some (some (.inl (.long v)))) : am_rn call z pc ls st M X = am_rn call z (pc + 1) ls (.inl (.long v) :: st) M X := by
  rw [am_rn_eq hc]; simp only [am_ex]; rw [am_get_of hg]; rfl
theorem rl_lload {j : Nat} {v : Int64} (hc : am_cd z pc = some (.lload j)) (hg : ls[j]? = some (some (.inl (.long v)))) : am_rn call z pc ls st M X = am_rn call z (pc + 2) ls (.inl (.long v) :: st) M X := by
  rw [am_rn_eq hc]; simp only [am_ex]; rw [am_get_of hg]; rfl
theorem rl_lstoren {j : Fin 4} {v : Int64} (hc : am_cd z pc = some (.lstore_n j)) (hl : decide (j.val + 1 < ls.length) = true) {ls' : am_S} (hp : am_put2 ls j.val (.inl (.long v)) = ls') : am_rn call z pc ls (.inl (.long v) :: st) M X = am_rn call z (pc + 1) ls' st M X := by
  rw [am_rn_eq hc]; simp only [am_ex, am_popJ]; rw [if_pos (of_decide_eq_true hl), hp]
theorem rl_lstore {j : Nat} {v : Int64} (hc : am_cd z pc = some (.lstore j)) (hl : decide (j + 1 < ls.length) = true) {ls' : am_S} (hp : am_put2 ls j (.inl (.long v)) = ls') : am_rn call z pc ls (.inl (.long v) :: st) M X = am_rn call z (pc + 2) ls' st M X := by
  rw [am_rn_eq hc]; simp only [am_ex, am_popJ]; rw [if_pos (of_decide_eq_true hl), hp]
theorem rl_ladd {u v : Int64} (hc : am_cd z pc = some .ladd) : am_rn call z pc ls (.inl (.long v) :: .inl (.long u) :: st) M X = am_rn call z (pc + 1) ls (.inl (.long (u + v)) :: st) M X := by
  rw [am_rn_eq hc]; rfl
theorem rl_lmul {u v : Int64} (hc : am_cd z pc = some .lmul) : am_rn call z pc ls (.inl (.long v) :: .inl (.long u) :: st) M X = am_rn call z (pc + 1) ls (.inl (.long (u * v)) :: st) M X := by
  rw [am_rn_eq hc]; rfl
theorem rl_ixor (hc : am_cd z pc = some .ixor) : am_rn call z pc ls (am_I y :: am_I x :: st) M X = am_rn call z (pc + 1) ls (am_I (x ^^^ y) :: st) M X := by
  rw [am_rn_eq hc]; rfl
theorem rl_ldcw {ix : Nat} {k : Int32} (hc : am_cd z pc = some (.ldc_w ix)) (hk : am_kc (am_own z) ix = some k) : am_rn call z pc ls st M X = am_rn call z (pc + 3) ls (am_I k :: st) M X := by
  rw [am_rn_eq hc]; dsimp only [am_ex]; rw [hk]; rfl
theorem rl_ldcf {ix : Nat} {k : UInt32} (hc : am_cd z pc = some (.ldc ix)) (h0 : am_kc (am_own z) ix = none) (hk : am_kf (am_own z) ix = some k) : am_rn call z pc ls st M X = am_rn call z (pc + 2) ls (.inl (.float k) :: st) M X := by
  rw [am_rn_eq hc]; dsimp only [am_ex]; rw [h0, hk]; rfl
theorem rl_ldc2l {ix : Nat} {k : Int64} (hc : am_cd z pc = some (.ldc2_w ix)) (hk : am_kl (am_own z) ix = some k) : am_rn call z pc ls st M X = am_rn call z (pc + 3) ls (.inl (.long k) :: st) M X := by
  rw [am_rn_eq hc]; dsimp only [am_ex]; rw [hk]; rfl
theorem rl_ldc2d {ix : Nat} {k : UInt64} (hc : am_cd z pc = some (.ldc2_w ix)) (h0 : am_kl (am_own z) ix = none) (hk : am_kd2 (am_own z) ix = some k) : am_rn call z pc ls st M X = am_rn call z (pc + 3) ls (.inl (.double k) :: st) M X := by
  rw [am_rn_eq hc]; dsimp only [am_ex]; rw [h0, hk]; rfl
theorem rl_lret {v : Int64} (hc : am_cd z pc = some .lreturn) (hr : am_rt z = 7) : am_rn call z pc ls [.inl (.long v)] M X = some (.inl (some (.inl (.long v))), M, X) := by
  rw [am_rn_eq hc]; simp only [am_ex, hr]
theorem rl_dbits {ix y0 : Nat} {v : UInt64} (hc : am_cd z pc = some (.invokestatic ix)) (hm : am_ml (am_own z) ix = some (8, y0)) (hr : am_sb st = true) : am_rn call z pc ls (.inl (.double v) :: st) M X = if v &&& 0x7fffffffffffffff ≤ 0x7ff0000000000000 then am_rn call z (pc + 3) ls (.inl (.long v.toInt64) :: st) M X else none := by
  rw [am_rn_eq hc]; simp only [am_ex, hm, am_inv, am_popD]; rw [am_sm_of hr]
theorem rl_fbits {ix y0 : Nat} {v : UInt32} (hc : am_cd z pc = some (.invokestatic ix)) (hm : am_ml (am_own z) ix = some (9, y0)) (hr : am_sb st = true) : am_rn call z pc ls (.inl (.float v) :: st) M X = if v &&& 0x7fffffff ≤ 0x7f800000 then am_rn call z (pc + 3) ls (am_I v.toInt32 :: st) M X else none := by
  rw [am_rn_eq hc]; simp only [am_ex, hm, am_inv, am_popF]; rw [am_sm_of hr]
theorem rl_slen {ix y0 : Nat} (hc : am_cd z pc = some (.invokevirtual ix)) (hm : am_ml (am_own z) ix = some (10, y0)) (hr : am_sb st = true) : am_rn call z pc ls (am_P (50, 0, 0) :: st) M (am_Z w) = am_o2 w.2.2.2 (fun t => am_rn call z (pc + 3) ls (am_I (nI t.length) :: st) M (am_Z w)) none := by
  rw [am_rn_eq hc]; simp only [am_ex, hm, am_inv, am_popP]; rw [am_sm_of hr, if_pos trivial]
theorem rl_schr {ix y0 : Nat} (hc : am_cd z pc = some (.invokevirtual ix)) (hm : am_ml (am_own z) ix = some (11, y0)) (hr : am_sb st = true) : am_rn call z pc ls (am_I x :: am_P (50, 0, 0) :: st) M (am_Z w) = am_o2 w.2.2.2 (fun t => if am_in x t.length then am_rn call z (pc + 3) ls (am_I (nI (t.getD x.toNatClampNeg 0)) :: st) M (am_Z w) else none) none := by
  rw [am_rn_eq hc]; simp only [am_ex, hm, am_inv, am_popP, am_popI]; rw [am_sm_of hr, if_pos trivial]
theorem rl_slen2 {ix y0 : Nat} {t : List Nat} (hc : am_cd z pc = some (.invokevirtual ix)) (hm : am_ml (am_own z) ix = some (10, y0)) (hr : am_sb st = true) (hT : w.2.2.2 = some t) : am_rn call z pc ls (am_P (50, 0, 0) :: st) M (am_Z w) = am_rn call z (pc + 3) ls (am_I (nI t.length) :: st) M (am_Z w) := by
  rw [rl_slen hc hm hr, hT]; rfl
theorem rl_schr2 {ix y0 : Nat} {t : List Nat} (hc : am_cd z pc = some (.invokevirtual ix)) (hm : am_ml (am_own z) ix = some (11, y0)) (hr : am_sb st = true) (hT : w.2.2.2 = some t) : am_rn call z pc ls (am_I x :: am_P (50, 0, 0) :: st) M (am_Z w) = if am_in x t.length then am_rn call z (pc + 3) ls (am_I (nI (t.getD x.toNatClampNeg 0)) :: st) M (am_Z w) else none := by
  rw [rl_schr hc hm hr, hT]; rfl
theorem rl_alen (hc : am_cd z pc = some .arraylength) : am_rn call z pc ls (am_P (0, 0, 0) :: st) M X = am_rn call z (pc + 1) ls (am_I (M (0, 0, 1) 0) :: st) M X := by
  rw [am_rn_eq hc]; simp only [am_ex, am_popP, if_true]
theorem am_b1_cb {r : Option am_R} {K : Option am_V → am_M → am_X → Option am_R} : am_b1 (α := Unit) r K = am_cb r K := by
  unfold am_b1 am_cb; split <;> rfl
theorem rl_inv {ix n o : Nat} (y : Nat) (as r : List am_V) (hc : am_cd z pc = some (.invokevirtual ix)) (hm : am_ml (am_own z) ix = some (0, y)) (hn : am_na y = n) (ho : am_own y = o) (hh : am_hs z = [] ∧ am_tr z = true) (hp : am_popN n [] st (fun as r => some (as, r)) = some (as, am_P l :: r)) (hr : am_sb r = true) (h : am_ck l o) : am_rn call z pc ls st M (am_Z w) = am_cb (call y (am_P l :: as) M (am_Z w)) fun v M X => am_rn call z (pc + 3) ls (v.toList ++ r) M X := by
  rw [rn_invV hc hm hn ho hh]
  have key : ∀ (n : Nat) (acc st as r : List am_V), am_popN n acc st (fun as r => some (as, r)) = some (as, r) → ∀ {α : Type} (f : List am_V → List am_V → Option α), am_popN n acc st f = f as r := by
    intro n
    induction n with
    | zero => intro acc st as r h α f; cases h; rfl
    | succ n ih =>
      intro acc st as r h α f
      unfold am_popN at h ⊢
      obtain ⟨v, t, rfl, hv, h2⟩ : ∃ v t, st = v :: t ∧ am_1 v = true ∧ am_popN n (v :: acc) t (fun as r => some (as, r)) = some (as, r) := by
        unfold am_pop1 at h
        split at h
        · exact ⟨_, _, rfl, rfl, h⟩
        · exact ⟨_, _, rfl, rfl, h⟩
        · cases h
      rw [am_pop1_of hv]
      exact ih _ _ _ _ h2 f
  rw [key _ _ _ _ _ hp]
  simp only [am_popP]
  rw [am_sm_of hr, am_chk_of h, am_b1_cb]
end AmRL
section AmRL2
variable {call : Nat → List am_V → am_M → am_X → Option am_R} {z pc : Nat} {ls : am_S} {st : List am_V} {M : am_M} {X : am_X} {w : am_W4} {x y : Int32} {l : am_L}
theorem am_popN_of : ∀ {n : Nat} {acc st as r : List am_V}, am_popN n acc st (fun as r => some (as, r)) = some (as, r) → ∀ {α : Type} (f : List am_V → List am_V → Option α), am_popN n acc st f = f as r := by
  intro n
  induction n with
  | zero => intro acc st as r h α f; cases h; rfl
  | succ n ih =>
    intro acc st as r h α f
    unfold am_popN at h ⊢
    obtain ⟨v, t, rfl, hv, h2⟩ : ∃ v t, st = v :: t ∧ am_1 v = true ∧ am_popN n (v :: acc) t (fun as r => some (as, r)) = some (as, r) := by
      unfold am_pop1 at h
      split at h
      · exact ⟨_, _, rfl, rfl, h⟩
      · exact ⟨_, _, rfl, rfl, h⟩
      · cases h
    rw [am_pop1_of hv]
    exact ih h2 f
theorem rl_invS {ix n k : Nat} (y : Nat) (as r : List am_V) (hc : am_cd z pc = some (.invokestatic ix)) (hm : am_ml (am_own z) ix = some (k, y)) (hk : k = 1 ∨ k = 4) (hn : am_na y = n) (hh : am_hs z = [] ∧ am_tr z = true) (hp : am_popN n [] st (fun as r => some (as, r)) = some (as, r)) (hr : am_sb r = true) : am_rn call z pc ls st M X = am_cb (call y as M X) fun v M X => am_rn call z (pc + 3) ls (v.toList ++ r) M X := by
  rw [rn_invS hc hm hk hn hh, am_popN_of hp, am_sm_of hr, am_b1_cb]
theorem rl_invH {ix n o : Nat} (y : Nat) (as r : List am_V) (hc : am_cd z pc = some (.invokevirtual ix)) (hm : am_ml (am_own z) ix = some (0, y)) (hn : am_na y = n) (ho : am_own y = o) (hp : am_popN n [] st (fun as r => some (as, r)) = some (as, am_P l :: r)) (hr : am_sb r = true) (h : am_ck l o) : am_rn call z pc ls st M (am_Z w) = am_bk z pc ls r (call y (am_P l :: as) M (am_Z w)) (am_rn call z) some := by
  rw [rn_invH hc hm hn ho, am_popN_of hp]
  simp only [am_popP]
  rw [am_sm_of hr, am_chk_of h]
theorem rl_sc {ix ix2 k y n : Nat} (as r : List am_V) (hc : am_cd z pc = some (.ldc_w ix)) (h0 : am_kc (am_own z) ix = none) (hk : am_kt (am_own z) ix = some k) (h2 : am_cd z (pc + 3) = some (.invokestatic ix2)) (hm : am_ml (am_own z) ix2 = some (1, y)) (hn : am_na y = n + 1) (ht : am_tr z = true) (hp : am_popN n [] st (fun as r => some (as, r)) = some (as, r)) (hr : am_sb r = true) (h15 : am_n15 as = true ∧ am_n15 r = true) : am_rn call z pc ls st M (am_Z w) = if w.2.2.2 = none then am_bs (pc + 6) ls r (call y (as ++ [am_P (50, 0, 0)]) M (am_Z (w.1, w.2.1, w.2.2.1, some (am_lit k)))) (0, 0) (am_rn call z) else none := by
  rw [am_rn_eq hc]
  dsimp only [am_ex]
  rw [h0, hk]
  show am_sc call z (pc + 3) k ls st M (am_Z w) (am_rn call z) = _
  unfold am_sc
  rw [h2]
  dsimp only
  rw [hm]
  show (if (none : Option Nat) = none ∧ w.2.2.2 = none ∧ am_tr z = true ∧ 1 ≤ am_na y then am_popN (am_na y - 1) [] st fun as st => am_sm st (if am_n15 as = true ∧ am_n15 st = true then am_bs (pc + 3 + 3) ls st (call y (as ++ [.inr (some (50, 0, 0))]) M (am_hx (am_Z w) (am_lit k))) (0, 0) (am_rn call z) else none) else none) = _
  rw [hn, Nat.add_sub_cancel, am_popN_of hp, am_sm_of hr, if_pos (c := am_n15 as = true ∧ am_n15 r = true) h15]
  by_cases h : w.2.2.2 = none
  · rw [if_pos h, if_pos ⟨rfl, h, ht, by omega⟩]
    rfl
  · rw [if_neg h, if_neg (fun q => h q.2.1)]
theorem rl_ca {ix : Nat} (hc : am_cd am_chz pc = some (.new ix)) (hn : am_nw (am_own am_chz) ix = none) (hpc : pc = 324 ∨ pc = 386) (hg : ls[1]? = some (some (am_I x))) (hr : am_sb ([] : List am_V) = true) : am_rn call am_chz pc ls [am_P (3, 0, 0)] M (am_Z w) = if w.2.2.2 = none then am_bs 449 ls [] (call am_rdz [am_P (3, 0, 0), am_P (50, 0, 0)] M (am_Z (w.1, w.2.1, w.2.2.1, some (am_tx pc x)))) (10, 2400) (am_rn call am_chz) else none := by
  rw [am_rn_eq hc]
  dsimp only [am_ex]
  rw [hn]
  dsimp only
  unfold am_ca
  rw [am_get_of hg]
  simp only [am_asI, am_popP]
  rw [am_sm_of hr]
  by_cases h : w.2.2.2 = none
  · rw [if_pos h, if_pos ⟨trivial, hpc, trivial, h⟩, if_pos ⟨trivial, rfl⟩]
    rfl
  · rw [if_neg h, if_neg (fun q => h q.2.2.2)]
theorem rl_min {ix y0 : Nat} (hc : am_cd z pc = some (.invokestatic ix)) (hm : am_ml (am_own z) ix = some (6, y0)) (hr : am_sb st = true) : am_rn call z pc ls (am_I y :: am_I x :: st) M X = am_rn call z (pc + 3) ls (am_I (if y < x then y else x) :: st) M X := by
  rw [rn_min hc hm]; simp only [am_popI]; rw [am_sm_of hr]
abbrev am_cpk (sp dp n : Int32) (n0 n1 : Nat) : Prop := ¬ sp < 0 ∧ ¬ dp < 0 ∧ ¬ n < 0 ∧ sp.toNatClampNeg + n.toNatClampNeg ≤ n0 ∧ dp.toNatClampNeg + n.toNatClampNeg ≤ n1
theorem rl_copy {ix y0 n0 n1 : Nat} {a a0 : am_L} {n dp sp : Int32} (hc : am_cd z pc = some (.invokestatic ix)) (hm : am_ml (am_own z) ix = some (7, y0)) (hr : am_sb st = true) (ha : am_ka a 1 n1 0) (ha0 : am_ka a0 1 n0 0) (hne : a ≠ a0) : am_rn call z pc ls (am_I n :: am_I dp :: am_P a :: am_I sp :: am_P a0 :: st) M (am_Z w) = if am_cpk sp dp n n0 n1 then am_rn call z (pc + 3) ls st (am_cp M a0 a sp.toNatClampNeg dp.toNatClampNeg n.toNatClampNeg) (am_Z w) else none := by
  rw [rn_copy hc hm]; simp only [am_popI, am_popP]; rw [am_sm_of hr]
  unfold am_cpy
  have h1 : am_al (am_Z w).2.1 a = true := by show (am_ok a && true) = true; rw [ha.1]; rfl
  have h2 : am_al (am_Z w).2.1 a0 = true := by show (am_ok a0 && true) = true; rw [ha0.1]; rfl
  rw [ha.2, ha0.2]
  by_cases h : am_cpk sp dp n n0 n1
  · rw [if_pos h, if_pos ⟨hne, h1, h2, rfl, rfl, h⟩]
  · rw [if_neg h, if_neg (fun q => h q.2.2.2.2.2)]
theorem rl_throw {ix E ic : Nat} (hc : am_cd z pc = some (.new ix)) (hm : am_nw (am_own z) ix = some (.inr (E, ic))) (h1 : am_cd z (pc + 3) = some .dup) (h2 : am_cd z (pc + 4) = some (.invokespecial ic)) (h3 : am_cd z (pc + 7) = some .athrow) (h4 : am_tr z = true) (hr : am_sb st = true) : am_rn call z pc ls st M (am_Z w) = some (.inr E, M, am_Z (am_bw w)) := by
  rw [rn_throw hc hm h1 h2 h3 h4, if_pos rfl, am_sm_of hr]; rfl
theorem rl_ret (hc : am_cd z pc = some .return_) (hr : am_rt z = 0) : am_rn call z pc ls [] M X = some (.inl none, M, X) := by
  rw [am_rn_eq hc]; simp only [am_ex, hr]
theorem rl_iret (hc : am_cd z pc = some .ireturn) (hr : am_rt z = 1) : am_rn call z pc ls [am_I x] M X = some (.inl (some (am_I x)), M, X) := by
  rw [am_rn_eq hc]; simp only [am_ex, hr]
theorem rl_zret (hc : am_cd z pc = some .ireturn) (hr : am_rt z = 2) : am_rn call z pc ls [am_I x] M X = if am_pc 1 x = true then some (.inl (some (am_I x)), M, X) else none := by
  rw [am_rn_eq hc]; simp only [am_ex, hr]
theorem rl_zretk (hc : am_cd z pc = some .ireturn) (hr : am_rt z = 2) (hx : am_pc 1 x = true) : am_rn call z pc ls [am_I x] M X = some (.inl (some (am_I x)), M, X) := by
  rw [rl_zret hc hr, if_pos hx]
theorem rl_cret (hc : am_cd z pc = some .ireturn) (hr : am_rt z = 3) : am_rn call z pc ls [am_I x] M X = if am_pc 2 x = true then some (.inl (some (am_I x)), M, X) else none := by
  rw [am_rn_eq hc]; simp only [am_ex, hr]
theorem rl_aret (hc : am_cd z pc = some .areturn) (hr : am_rt z = 6) : am_rn call z pc ls [am_P l] M X = some (.inl (some (am_P l)), M, X) := by
  rw [am_rn_eq hc]; simp only [am_ex, hr]
theorem rl_fret {v : UInt32} (hc : am_cd z pc = some .freturn) (hr : am_rt z = 4) : am_rn call z pc ls [.inl (.float v)] M X = some (.inl (some (.inl (.float v))), M, X) := by
  rw [am_rn_eq hc]; simp only [am_ex, hr]
theorem rl_dret {v : UInt64} (hc : am_cd z pc = some .dreturn) (hr : am_rt z = 5) : am_rn call z pc ls [.inl (.double v)] M X = some (.inl (some (.inl (.double v))), M, X) := by
  rw [am_rn_eq hc]; simp only [am_ex, hr]
theorem rl_ts {d lo hi : Int} {os : Array Int} (td : Nat) (ts : List Nat) (hc : am_cd z pc = some (.tableswitch d lo hi os)) (hok : am_tsok pc d lo hi os td ts = true) : am_rn call z pc ls (am_I x :: st) M X = am_sw x (fun t => am_rn call z t ls st M X) (am_rn call z td ls st M X) lo ts := by
  rw [rn_ts hc hok]; simp only [am_popI]
theorem rl_ls {d : Int} {ps : Array (Int × Int)} (td : Nat) (ts : List (Int × Nat)) (hc : am_cd z pc = some (.lookupswitch d ps)) (h0 : (ps.toList.zip (ps.toList.drop 1)).all (fun (a, next) => a.1 < next.1) = true) (h1 : (pc : Int) + d = (td : Int)) (h2 : ps.toList.map (fun q => (q.1, (pc : Int) + q.2)) = ts.map (fun q => (q.1, (q.2 : Int)))) : am_rn call z pc ls (am_I x :: st) M X = am_lk x (fun t => am_rn call z t ls st M X) (am_rn call z td ls st M X) ts := by
  rw [rn_ls hc h0 h1 h2]; simp only [am_popI]
theorem am_toInt_eq {x k : Int32} {a : Int} (hk : k.toInt = a) : x.toInt = a ↔ x = k := ⟨fun h => Int32.toInt_inj.mp (h.trans hk.symm), fun h => by rw [h]; exact hk⟩
theorem rl_sw {α : Type} {f : Nat → Option α} {d : Option α} {a : Int} {t : Nat} {ts : List Nat} (k : Int32) (hk : k.toInt = a) : am_sw x f d a (t :: ts) = if x = k then f t else am_sw x f d (a + 1) ts := by
  rw [am_sw]
  by_cases h : x = k
  · rw [if_pos h, if_pos ((am_toInt_eq hk).mpr h)]
  · rw [if_neg h, if_neg (fun q => h ((am_toInt_eq hk).mp q))]
theorem rl_lk {α : Type} {f : Nat → Option α} {d : Option α} {a : Int} {t : Nat} {ts : List (Int × Nat)} (k : Int32) (hk : k.toInt = a) : am_lk x f d ((a, t) :: ts) = if x = k then f t else am_lk x f d ts := by
  rw [am_lk]
  by_cases h : x = k
  · rw [if_pos h, if_pos ((am_toInt_eq hk).mpr h)]
  · rw [if_neg h, if_neg (fun q => h ((am_toInt_eq hk).mp q))]
theorem rl_iald' {n b : Nat} (j : Nat) (hc : am_cd z pc = some .iaload) (h : am_ka l 1 n b) (hi : decide (am_in x n) = true) (hj : x.toNatClampNeg = j) : am_rn call z pc ls (am_I x :: am_P l :: st) M (am_Z w) = am_rn call z (pc + 1) ls (am_I (M l j) :: st) M (am_Z w) := by
  rw [rl_iald hc h, if_pos (of_decide_eq_true hi), hj]
theorem rl_iast' {n : Nat} (j : Nat) (hc : am_cd z pc = some .iastore) (h : am_ka l 1 n 0) (hi : decide (am_in x n) = true) (hj : x.toNatClampNeg = j) : am_rn call z pc ls (am_I y :: am_I x :: am_P l :: st) M (am_Z w) = am_rn call z (pc + 1) ls st (am_set M l j y) (am_Z w) := by
  rw [rl_iast hc h, if_pos (of_decide_eq_true hi), hj]
theorem rl_putZk {ix ci j : Nat} (hc : am_cd z pc = some (.putfield ix)) (hf : am_fl (am_own z) ix = some (ci, j)) (ho : am_fo z ci j = true) (hk : am_fk ci j = 1) (h : am_ck l ci) (hx : am_pc 1 x = true) : am_rn call z pc ls (am_I x :: am_P l :: st) M (am_Z w) = am_rn call z (pc + 3) ls st (am_set M l j x) (am_Z w) := by
  rw [rl_putZ hc hf ho hk h, if_pos hx]
theorem rl_copy' {ix y0 n0 n1 : Nat} {a a0 : am_L} {n dp sp : Int32} (s' d' n' : Nat) (hc : am_cd z pc = some (.invokestatic ix)) (hm : am_ml (am_own z) ix = some (7, y0)) (hr : am_sb st = true) (ha : am_ka a 1 n1 0) (ha0 : am_ka a0 1 n0 0) (hne : a ≠ a0) (hk : decide (am_cpk sp dp n n0 n1) = true) (h1 : sp.toNatClampNeg = s') (h2 : dp.toNatClampNeg = d') (h3 : n.toNatClampNeg = n') : am_rn call z pc ls (am_I n :: am_I dp :: am_P a :: am_I sp :: am_P a0 :: st) M (am_Z w) = am_rn call z (pc + 3) ls st (am_cp M a0 a s' d' n') (am_Z w) := by
  rw [rl_copy hc hm hr ha ha0 hne, if_pos (of_decide_eq_true hk), h1, h2, h3]
end AmRL2
