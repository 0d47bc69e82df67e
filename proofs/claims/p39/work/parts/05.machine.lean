/-! AN ABSTRACT MACHINE over the places of this system: a place is (kind, network, number); what the places hold are ints (am_M), where their references lead is am_T. -/
abbrev am_L : Type := Nat × Nat × Nat
abbrev am_V : Type := Value ⊕ Option am_L
abbrev am_M : Type := am_L → Nat → Int32
abbrev am_T : Type := am_L → Nat → Option am_L
abbrev am_X : Type := am_T × Option Nat × Nat × Nat × Option (Nat → Int64) × Option (List Nat)
abbrev am_R : Type := (Option am_V ⊕ Nat) × am_M × am_X
abbrev am_S : Type := List (Option am_V)
abbrev am_I (x : Int32) : am_V := .inl (.int x)
abbrev am_P (l : am_L) : am_V := .inr (some l)
def am_set (M : am_M) (l : am_L) (j : Nat) (x : Int32) : am_M := fun l' j' => if l' = l ∧ j' = j then x else M l' j'
def am_setT (M : am_T) (l : am_L) (j : Nat) (x : Option am_L) : am_T := fun l' j' => if l' = l ∧ j' = j then x else M l' j'
def am_cp (M : am_M) (s d : am_L) (sp dp n : Nat) : am_M := fun l' j' => if l' = d then va_cpy (M s) (M d) sp dp n j' else M l' j'
/-- kinds: (0, class) an object; (1, n) ints; (2, n) chars; (3, class, n) references; 6 the script. (1, 0, 0) is the row of longs, (50, 0, 0) the String at hand: they have no cell of this table -/
def am_kd (l : am_L) : Nat × Nat × Nat := match l.1 with
  | 0 => (6, 0, 0) | 3 => (0, 8, 0) | 4 => (0, 3, 0) | 5 => (3, 5, 9) | 6 => (0, 6, 0) | 7 => (0, 0, 0) | 8 => (0, 1, 0) | 9 => (2, 60, 0) | 10 => (3, 0, 20)
  | 11 => (0, 0, 0) | 12 => (2, 14, 0) | 13 => (0, 5, 0) | 14 => (3, 2, 6) | 15 => (3, 7, 5) | 16 => (1, 9, 0) | 17 => (3, 4, 16) | 18 => (1, 16, 0) | 20 => (1, 8, 0)
  | 21 => (0, 2, 0) | 22 => (1, 16, 0) | 23 => (0, 7, 0) | 24 => (0, 4, 0) | 25 => (1, 8, 0) | _ => (9, 0, 0)
def am_ok (l : am_L) : Bool := match l.1 with
  | 0 => l.2.1 == 0 && l.2.2 == 0 | 3 => l.2.1 == 0 && l.2.2 == 0 | 4 => l.2.1 == 0 && l.2.2 == 0 | 5 => l.2.1 == 0 && l.2.2 == 0 | 6 => l.2.1 == 0 && l.2.2 == 0 | 7 => l.2.1 == 0 && l.2.2 == 0 | 8 => l.2.1 == 0 && l.2.2 == 0 | 9 => l.2.1 == 0 && l.2.2 == 0 | 10 => l.2.1 == 0 && l.2.2 == 0
  | 11 => l.2.1 == 0 && decide (l.2.2 < 20) | 12 => l.2.1 == 0 && l.2.2 == 0
  | 13 => decide (l.2.1 < 12) && l.2.2 == 0 | 14 => decide (l.2.1 < 12) && l.2.2 == 0 | 15 => decide (l.2.1 < 12) && l.2.2 == 0 | 16 => decide (l.2.1 < 12) && l.2.2 == 0 | 17 => decide (l.2.1 < 12) && l.2.2 == 0 | 18 => decide (l.2.1 < 12) && l.2.2 == 0 | 20 => decide (l.2.1 < 12) && l.2.2 == 0
  | 21 => decide (l.2.1 < 12) && decide (l.2.2 < 6) | 22 => decide (l.2.1 < 12) && decide (l.2.2 < 6) | 23 => decide (l.2.1 < 12) && decide (l.2.2 < 5) | 24 => decide (l.2.1 < 12) && decide (l.2.2 < 16) | 25 => decide (l.2.1 < 12) && decide (l.2.2 < 16)
  | _ => false
def am_nb (n : Nat) : Nat := if n < 3 then 1 + 56 * n else 3 + 56 * n
def am_ad (l : am_L) : Nat := match l.1 with
  | 3 => 0 | 4 => 169 | 5 => 170 | 6 => 675 | 7 => 676 | 8 => 677 | 9 => 678 | 10 => 679 | 11 => 680 + l.2.2 | 12 => 700
  | 13 => am_nb l.2.1 | 14 => am_nb l.2.1 + 1 | 15 => am_nb l.2.1 + 2 | 16 => am_nb l.2.1 + 3 | 17 => am_nb l.2.1 + 4 | 18 => am_nb l.2.1 + 5 | 20 => am_nb l.2.1 + 6
  | 21 => am_nb l.2.1 + 7 + 2 * l.2.2 | 22 => am_nb l.2.1 + 8 + 2 * l.2.2 | 23 => am_nb l.2.1 + 19 + l.2.2 | 24 => am_nb l.2.1 + 24 + 2 * l.2.2 | 25 => am_nb l.2.1 + 25 + 2 * l.2.2
  | _ => 0
def am_lr (n r : Nat) : am_L :=
  if r < 6 then (13 + r, n, 0) else if r < 7 then (20, n, 0) else if r < 19 then (21 + (r - 7) % 2, n, (r - 7) / 2) else if r < 24 then (23, n, r - 19) else (24 + (r - 24) % 2, n, (r - 24) / 2)
/-- the place that is laid at this number -/
def am_lo (a : Nat) : am_L :=
  if a = 0 then (3, 0, 0) else if a < 169 then am_lr ((a - 1) / 56) ((a - 1) % 56) else if a = 169 then (4, 0, 0) else if a = 170 then (5, 0, 0) else if a < 675 then am_lr (3 + (a - 171) / 56) ((a - 171) % 56)
  else if a = 675 then (6, 0, 0) else if a = 676 then (7, 0, 0) else if a = 677 then (8, 0, 0) else if a = 678 then (9, 0, 0) else if a = 679 then (10, 0, 0) else if a < 700 then (11, 0, a - 680) else if a = 700 then (12, 0, 0)
  else (0, 0, 0)
/-- may the place be used: it is one, and it is made already -/
def am_al (ph : Option Nat) (l : am_L) : Bool := am_ok l && (match ph with
  | none => true
  | some c => decide (am_ad l < c) || l.1 == 0)
section AmPop
variable {α : Type}
def am_asI (v : am_V) (f : Int32 → Option α) : Option α := match v with
  | .inl (.int x) => f x
  | _ => none
def am_asF (v : am_V) (f : UInt32 → Option α) : Option α := match v with
  | .inl (.float x) => f x
  | _ => none
def am_asD (v : am_V) (f : UInt64 → Option α) : Option α := match v with
  | .inl (.double x) => f x
  | _ => none
/-- on with what is there, or the other way -/
def am_o2 {β : Type} (o : Option β) (f : β → Option α) (x : Option α) : Option α := match o with
  | some t => f t
  | none => x
def am_asJ (v : am_V) (f : Int64 → Option α) : Option α := match v with
  | .inl (.long x) => f x
  | _ => none
def am_asP (v : am_V) (f : am_L → Option α) : Option α := match v with
  | .inr (some l) => f l
  | _ => none
def am_pop (st : List am_V) (f : am_V → List am_V → Option α) : Option α := match st with
  | v :: r => f v r
  | [] => none
def am_popI (st : List am_V) (f : Int32 → List am_V → Option α) : Option α := match st with
  | .inl (.int x) :: r => f x r
  | _ => none
def am_popJ (st : List am_V) (f : Int64 → List am_V → Option α) : Option α := match st with
  | .inl (.long x) :: r => f x r
  | _ => none
def am_popF (st : List am_V) (f : UInt32 → List am_V → Option α) : Option α := match st with
  | .inl (.float x) :: r => f x r
  | _ => none
def am_popD (st : List am_V) (f : UInt64 → List am_V → Option α) : Option α := match st with
  | .inl (.double x) :: r => f x r
  | _ => none
def am_popP (st : List am_V) (f : am_L → List am_V → Option α) : Option α := match st with
  | .inr (some l) :: r => f l r
  | _ => none
/-- an int or a reference: a value of one slot -/
def am_pop1 (st : List am_V) (f : am_V → List am_V → Option α) : Option α := match st with
  | .inl (.int x) :: r => f (.inl (.int x)) r
  | .inr (some l) :: r => f (.inr (some l)) r
  | _ => none
/-- n values, the first of them the deepest -/
def am_popN : Nat → List am_V → List am_V → (List am_V → List am_V → Option α) → Option α
  | 0, acc, st, f => f acc st
  | n + 1, acc, st, f => am_pop1 st fun v r => am_popN n (v :: acc) r f
/-- few enough left below a call -/
def am_sm (st : List am_V) (x : Option α) : Option α := match st with
  | [] => x | [_] => x | [_, _] => x | [_, _, _] => x | [_, _, _, _] => x
  | _ => none
def am_j (pc : Nat) (off : Int) (f : Nat → Option α) : Option α := match (pc : Int) + off with
  | .ofNat t => f t
  | .negSucc _ => none
def am_get : am_S → Nat → (am_V → Option α) → Option α
  | some v :: _, 0, f => f v
  | _ :: l, n + 1, f => am_get l n f
  | _, _, _ => none
end AmPop
/-- what a store just above leaves of a local: one of two slots is lost -/
def am_k (a : Option am_V) : Option am_V := match a with
  | some (.inl (.double _)) => none
  | some (.inl (.long _)) => none
  | b => b
def am_put : am_S → Nat → Option am_V → am_S
  | [], _, _ => []
  | _ :: l, 0, v => v :: l
  | a :: b :: l, 1, v => am_k a :: v :: l
  | a :: [], 1, _ => [a]
  | a :: l, n + 2, v => a :: am_put l (n + 1) v
/-- a value of two slots -/
def am_put2 (l : am_S) (i : Nat) (v : am_V) : am_S := (am_put l i (some v)).set (i + 1) none
/-- one instruction: K goes on, F ends -/
def am_chk {α : Type} (X : am_X) (l : am_L) (ci : Nat) (x : Option α) : Option α := if am_al X.2.1 l = true ∧ am_kd l = (0, ci, 0) then x else none
def am_arr {α : Type} (X : am_X) (l : am_L) (k a b : Nat) (i : Int32) (n : Nat) (x : Nat → Option α) : Option α := if am_al X.2.1 l = true ∧ am_kd l = (k, a, b) ∧ ¬ (i < 0 ∨ n ≤ i.toNatClampNeg) then x i.toNatClampNeg else none
/-- behind a call: on with the answer, or to the handler, or out -/
def am_bk {α : Type} (z pc : Nat) (ls : am_S) (st : List am_V) (r : Option am_R) (K : Nat → am_S → List am_V → am_M → am_X → Option α) (F : am_R → Option α) : Option α := match r with
  | none => none
  | some (.inl v, M, X) => K (pc + 3) ls (v.toList ++ st) M X
  | some (.inr E, M, X) => match am_hd z pc E with
    | none => if am_tr z = true then F (.inr E, M, X) else none
    | some (t, j) => K t (am_put ls j none) [] M X
def am_pc (f : Nat) (x : Int32) : Bool := match f with
  | 0 => true
  | 1 => x == 0 || x == 1
  | 2 => decide (0 ≤ x ∧ x ≤ 65535)
  | _ => false
def am_inv {α : Type} (call : Nat → List am_V → am_M → am_X → Option am_R) (z kd y pc : Nat) (ls : am_S) (st : List am_V) (M : am_M) (X : am_X) (K : Nat → am_S → List am_V → am_M → am_X → Option α) (F : am_R → Option α) : Option α := match kd with
  | 0 => am_popN (am_na y) [] st fun as st => am_popP st fun l st => am_sm st (am_chk X l (am_own y) (am_bk z pc ls st (call y (.inr (some l) :: as) M X) K F))
  | 1 => am_popN (am_na y) [] st fun as st => am_sm st (am_bk z pc ls st (call y as M X) K F)
  | 5 => am_popP st fun _ st => am_sm st (K (pc + 3) ls st M X)
  | 6 => am_popI st fun y st => am_popI st fun x st => am_sm st (K (pc + 3) ls (.inl (.int (if y < x then y else x)) :: st) M X)
  | 8 => am_popD st fun x st => am_sm st (if x &&& 0x7fffffffffffffff ≤ 0x7ff0000000000000 then K (pc + 3) ls (.inl (.long x.toInt64) :: st) M X else none)
  | 9 => am_popF st fun x st => am_sm st (if x &&& 0x7fffffff ≤ 0x7f800000 then K (pc + 3) ls (.inl (.int x.toInt32) :: st) M X else none)
  | 10 => am_popP st fun l st => am_sm st (if l = (50, 0, 0) then am_o2 X.2.2.2.2.2 (fun t => K (pc + 3) ls (.inl (.int (nI t.length)) :: st) M X) none else none)
  | 11 => am_popI st fun i st => am_popP st fun l st => am_sm st (if l = (50, 0, 0) then am_o2 X.2.2.2.2.2 (fun t => if ¬ (i < 0 ∨ t.length ≤ i.toNatClampNeg) then K (pc + 3) ls (.inl (.int (nI (t.getD i.toNatClampNeg 0))) :: st) M X else none) none else none)
  | 7 => am_popI st fun n st => am_popI st fun dp st => am_popP st fun a st => am_popI st fun sp st => am_popP st fun a0 st => am_sm st (
      if a ≠ a0 ∧ am_al X.2.1 a = true ∧ am_al X.2.1 a0 = true ∧ (am_kd a).1 = 1 ∧ (am_kd a0).1 = 1 ∧ ¬ sp < 0 ∧ ¬ dp < 0 ∧ ¬ n < 0 ∧ sp.toNatClampNeg + n.toNatClampNeg ≤ (am_kd a0).2.1 ∧ dp.toNatClampNeg + n.toNatClampNeg ≤ (am_kd a).2.1
      then K (pc + 3) ls st (am_cp M a0 a sp.toNatClampNeg dp.toNatClampNeg n.toNatClampNeg) X else none)
  | _ => none
/-- the phase behind the cell of this number: the last one ends it -/
def am_nph (c : Nat) : Option Nat := if c + 1 = 701 then none else some (c + 1)
/-- a new cell of this kind, as many slots -/
def am_nu {α : Type} (X : am_X) (k : Nat × Nat × Nat) (n : Nat) (f : am_L → am_X → Option α) : Option α := match X.2.1 with
  | none => none
  | some c => if am_ok (am_lo c) = true ∧ am_ad (am_lo c) = c ∧ am_kd (am_lo c) = k ∧ (am_lo c).1 ≠ 0 then f (am_lo c) (X.1, am_nph c, X.2.2.1 + 1, X.2.2.2.1 + n, X.2.2.2.2) else none
/-- a call with a String at hand: it is let go behind the call -/
def am_bs {α : Type} (pc : Nat) (ls : am_S) (st : List am_V) (r : Option am_R) (n : Nat × Nat) (K : Nat → am_S → List am_V → am_M → am_X → Option α) : Option α := match r with
  | some (.inl (some (.inl v)), M, X) => K pc ls (.inl v :: st) M (X.1, X.2.1, X.2.2.1 + n.1, X.2.2.2.1 + n.2, X.2.2.2.2.1, none)
  | _ => none
/-- the state with this text at hand -/
def am_hx (X : am_X) (t : List Nat) : am_X := (X.1, X.2.1, X.2.2.1, X.2.2.2.1, X.2.2.2.2.1, some t)
def am_d10 (n : Nat) : List Nat := if n < 10 then [48 + n] else [48 + n / 10, 48 + n % 10]
/-- x modulo n, not below 0 -/
def am_mo (x n : Int32) : Int32 := if x - x / n * n < 0 then x - x / n * n + n else x - x / n * n
def am_da (x : Int32) (k n : Nat) : List Nat := am_d10 (am_mo (x >>> (nI k &&& 31)) (nI n)).toNatClampNeg
/-- the two texts that are put together out of an int -/
def am_tx (pc : Nat) (x : Int32) : List Nat :=
  if pc = 324 then am_lit 0 ++ am_da x 3 12 ++ am_lit 1 ++ am_da x 5 7 ++ am_lit 2 ++ am_da x 7 10 else am_lit 3 ++ am_da x 3 6 ++ am_lit 4 ++ am_da x 5 26 ++ am_lit 5 ++ am_da x 4 4
def am_n15 (l : List am_V) : Bool := l.all fun v => match v with
  | .inr (some l) => l.1 != 1 && l.1 != 50
  | _ => true
/-- a String constant is loaded and goes at once to a call; pc is behind it -/
def am_sc {α : Type} (call : Nat → List am_V → am_M → am_X → Option am_R) (z pc k : Nat) (ls : am_S) (st : List am_V) (M : am_M) (X : am_X) (K : Nat → am_S → List am_V → am_M → am_X → Option α) : Option α := match am_cd z pc with
  | some (.invokestatic ix) => match am_ml (am_own z) ix with
    | some (1, y) => if X.2.1 = none ∧ X.2.2.2.2.2 = none ∧ am_tr z = true ∧ 1 ≤ am_na y then am_popN (am_na y - 1) [] st fun as st => am_sm st (if am_n15 as = true ∧ am_n15 st = true then am_bs (pc + 3) ls st (call y (as ++ [.inr (some (50, 0, 0))]) M (am_hx X (am_lit k))) (0, 0) K else none) else none
    | _ => none
  | _ => none
/-- a text is put together and goes to a call: a StringBuilder with its 16 bytes, a String with its own -/
def am_ca {α : Type} (call : Nat → List am_V → am_M → am_X → Option am_R) (z pc : Nat) (ls : am_S) (st : List am_V) (M : am_M) (X : am_X) (K : Nat → am_S → List am_V → am_M → am_X → Option α) : Option α :=
  if z = am_chz ∧ (pc = 324 ∨ pc = 386) ∧ X.2.1 = none ∧ X.2.2.2.2.2 = none then am_get ls 1 fun v => am_asI v fun x => am_popP st fun l st => am_sm st (if l = (3, 0, 0) ∧ st.isEmpty = true then am_bs 449 ls st (call am_rdz [.inr (some l), .inr (some (50, 0, 0))] M (am_hx X (am_tx pc x))) (10, 2400) K else none) else none
/-- what is left when another object is made: the script -/
def am_wp (M : am_M) : am_M := fun l j => if l.1 = 0 then M l j else 0
def am_wr (ls : am_S) : am_S := ls.map fun v => match v with
  | some (.inr (some l)) => if l.1 = 1 ∨ l.1 = 50 then none else some (.inr (some l))
  | v => v
def am_wl (ls : am_S) : am_S := ls.map fun v => match v with
  | some (.inr (some l)) => if l.1 = 0 then some (.inr (some l)) else none
  | v => v
def am_bump (X : am_X) : am_X := (X.1, X.2.1, X.2.2.1 + 1, X.2.2.2.1 + 6, X.2.2.2.2)
def am_ex {α : Type} (call : Nat → List am_V → am_M → am_X → Option am_R) (z : Nat) (i : Instr) (pc : Nat) (ls : am_S) (st : List am_V) (M : am_M) (X : am_X) (K : Nat → am_S → List am_V → am_M → am_X → Option α) (F : am_R → Option α) : Option α := match i with
  | .lload_n j => am_get ls j.val fun v => am_asJ v fun x => K (pc + 1) ls (.inl (.long x) :: st) M X
  | .lload j => am_get ls j fun v => am_asJ v fun x => K (pc + 2) ls (.inl (.long x) :: st) M X
  | .lstore_n j => am_popJ st fun x st => if j.val + 1 < ls.length then K (pc + 1) (am_put2 ls j.val (.inl (.long x))) st M X else none
  | .lstore j => am_popJ st fun x st => if j + 1 < ls.length then K (pc + 2) (am_put2 ls j (.inl (.long x))) st M X else none
  | .iload_n j => am_get ls j.val fun v => am_asI v fun x => K (pc + 1) ls (.inl (.int x) :: st) M X
  | .iload j => am_get ls j fun v => am_asI v fun x => K (pc + 2) ls (.inl (.int x) :: st) M X
  | .aload_n j => am_get ls j.val fun v => am_asP v fun l => K (pc + 1) ls (.inr (some l) :: st) M X
  | .aload j => am_get ls j fun v => am_asP v fun l => K (pc + 2) ls (.inr (some l) :: st) M X
  | .fload j => am_get ls j fun v => am_asF v fun x => K (pc + 2) ls (.inl (.float x) :: st) M X
  | .dload j => am_get ls j fun v => am_asD v fun x => K (pc + 2) ls (.inl (.double x) :: st) M X
  | .istore_n j => am_popI st fun x st => if j.val < ls.length then K (pc + 1) (am_put ls j.val (some (.inl (.int x)))) st M X else none
  | .istore j => am_popI st fun x st => if j < ls.length then K (pc + 2) (am_put ls j (some (.inl (.int x)))) st M X else none
  | .astore_n j => am_popP st fun l st => if j.val < ls.length then K (pc + 1) (am_put ls j.val (some (.inr (some l)))) st M X else none
  | .astore j => am_popP st fun l st => if j < ls.length then K (pc + 2) (am_put ls j (some (.inr (some l)))) st M X else none
  | .fstore j => am_popF st fun x st => if j < ls.length then K (pc + 2) (am_put ls j (some (.inl (.float x)))) st M X else none
  | .dstore j => am_popD st fun x st => if j + 1 < ls.length then K (pc + 2) (am_put2 ls j (.inl (.double x))) st M X else none
  | .iinc j c => am_get ls j fun v => am_asI v fun x => K (pc + 3) (am_put ls j (some (.inl (.int (x + Int32.ofInt c))))) st M X
  | .iconst c => K (pc + 1) ls (.inl (.int (Int32.ofInt c)) :: st) M X
  | .bipush c => K (pc + 2) ls (.inl (.int (Int8.ofInt c).toInt32) :: st) M X
  | .sipush c => K (pc + 3) ls (.inl (.int (Int16.ofInt c).toInt32) :: st) M X
  | .ldc ix => am_o2 (am_kc (am_own z) ix) (fun v => K (pc + 2) ls (.inl (.int v) :: st) M X) (am_o2 (am_kf (am_own z) ix) (fun v => K (pc + 2) ls (.inl (.float v) :: st) M X) none)
  | .ldc_w ix => am_o2 (am_kc (am_own z) ix) (fun v => K (pc + 3) ls (.inl (.int v) :: st) M X) (am_o2 (am_kt (am_own z) ix) (fun k => am_sc call z (pc + 3) k ls st M X K) none)
  | .ldc2_w ix => am_o2 (am_kl (am_own z) ix) (fun v => K (pc + 3) ls (.inl (.long v) :: st) M X) (am_o2 (am_kd2 (am_own z) ix) (fun v => K (pc + 3) ls (.inl (.double v) :: st) M X) none)
  | .lconst c => K (pc + 1) ls (.inl (.long (Int64.ofNat (c : Nat))) :: st) M X
  | .iadd => am_popI st fun y st => am_popI st fun x st => K (pc + 1) ls (.inl (.int (x + y)) :: st) M X
  | .isub => am_popI st fun y st => am_popI st fun x st => K (pc + 1) ls (.inl (.int (x - y)) :: st) M X
  | .imul => am_popI st fun y st => am_popI st fun x st => K (pc + 1) ls (.inl (.int (x * y)) :: st) M X
  | .ladd => am_popJ st fun y st => am_popJ st fun x st => K (pc + 1) ls (.inl (.long (x + y)) :: st) M X
  | .lmul => am_popJ st fun y st => am_popJ st fun x st => K (pc + 1) ls (.inl (.long (x * y)) :: st) M X
  | .ixor => am_popI st fun y st => am_popI st fun x st => K (pc + 1) ls (.inl (.int (x ^^^ y)) :: st) M X
  | .iand => am_popI st fun y st => am_popI st fun x st => K (pc + 1) ls (.inl (.int (x &&& y)) :: st) M X
  | .ior => am_popI st fun y st => am_popI st fun x st => K (pc + 1) ls (.inl (.int (x ||| y)) :: st) M X
  | .ishl => am_popI st fun y st => am_popI st fun x st => K (pc + 1) ls (.inl (.int (x <<< (y &&& 31))) :: st) M X
  | .ishr => am_popI st fun y st => am_popI st fun x st => K (pc + 1) ls (.inl (.int (x >>> (y &&& 31))) :: st) M X
  | .idiv => am_popI st fun y st => am_popI st fun x st => if y = 0 then none else K (pc + 1) ls (.inl (.int (x / y)) :: st) M X
  | .irem => am_popI st fun y st => am_popI st fun x st => if y = 0 then none else K (pc + 1) ls (.inl (.int (x - x / y * y)) :: st) M X
  | .i2l => am_popI st fun x st => K (pc + 1) ls (.inl (.long x.toInt64) :: st) M X
  | .i2c => am_popI st fun x st => K (pc + 1) ls (.inl (.int (x.toUInt32 % 65536).toInt32) :: st) M X
  | .i2f => am_popI st fun x st => K (pc + 1) ls (.inl (.float (FP.i2f x)) :: st) M X
  | .i2d => am_popI st fun x st => K (pc + 1) ls (.inl (.double (FP.i2d x)) :: st) M X
  | .f2d => am_popF st fun x st => if FP.f2d x &&& 0x7fffffffffffffff ≤ 0x7ff0000000000000 then K (pc + 1) ls (.inl (.double (FP.f2d x)) :: st) M X else none
  | .fdiv => am_popF st fun y st => am_popF st fun x st => if FP.fdiv x y &&& 0x7fffffff ≤ 0x7f800000 then K (pc + 1) ls (.inl (.float (FP.fdiv x y)) :: st) M X else none
  | .ddiv => am_popD st fun y st => am_popD st fun x st => if FP.ddiv x y &&& 0x7fffffffffffffff ≤ 0x7ff0000000000000 then K (pc + 1) ls (.inl (.double (FP.ddiv x y)) :: st) M X else none
  | .lcmp => am_popJ st fun y st => am_popJ st fun x st => K (pc + 1) ls (.inl (.int (lg_cmp x y)) :: st) M X
  | .fcmp op => am_popF st fun y st => am_popF st fun x st => K (pc + 1) ls (.inl (.int (Op.cmpValue (FP.fcmp x y) op)) :: st) M X
  | .dcmp op => am_popD st fun y st => am_popD st fun x st => K (pc + 1) ls (.inl (.int (Op.cmpValue (FP.dcmp x y) op)) :: st) M X
  | .dup => am_pop1 st fun v st => K (pc + 1) ls (v :: v :: st) M X
  | .pop => am_pop1 st fun _ st => K (pc + 1) ls st M X
  | .dup2 => am_pop1 st fun v st => am_pop1 st fun w st => K (pc + 1) ls (v :: w :: v :: w :: st) M X
  | .dup_x1 => am_pop1 st fun v st => am_pop1 st fun w st => K (pc + 1) ls (v :: w :: v :: st) M X
  | .dup_x2 => am_pop1 st fun v st => am_pop1 st fun w st => am_pop1 st fun u st => K (pc + 1) ls (v :: w :: u :: v :: st) M X
  | .goto o => am_j pc o fun t => K t ls st M X
  | .ifCond .eq o => am_popI st fun x st => am_j pc o fun t => if x = 0 then K t ls st M X else K (pc + 3) ls st M X
  | .ifCond .ne o => am_popI st fun x st => am_j pc o fun t => if x = 0 then K (pc + 3) ls st M X else K t ls st M X
  | .ifCond .lt o => am_popI st fun x st => am_j pc o fun t => if x < 0 then K t ls st M X else K (pc + 3) ls st M X
  | .ifCond .ge o => am_popI st fun x st => am_j pc o fun t => if x < 0 then K (pc + 3) ls st M X else K t ls st M X
  | .ifCond .gt o => am_popI st fun x st => am_j pc o fun t => if 0 < x then K t ls st M X else K (pc + 3) ls st M X
  | .ifCond .le o => am_popI st fun x st => am_j pc o fun t => if 0 < x then K (pc + 3) ls st M X else K t ls st M X
  | .if_icmp .eq o => am_popI st fun y st => am_popI st fun x st => am_j pc o fun t => if x = y then K t ls st M X else K (pc + 3) ls st M X
  | .if_icmp .ne o => am_popI st fun y st => am_popI st fun x st => am_j pc o fun t => if x = y then K (pc + 3) ls st M X else K t ls st M X
  | .if_icmp .lt o => am_popI st fun y st => am_popI st fun x st => am_j pc o fun t => if x < y then K t ls st M X else K (pc + 3) ls st M X
  | .if_icmp .ge o => am_popI st fun y st => am_popI st fun x st => am_j pc o fun t => if x < y then K (pc + 3) ls st M X else K t ls st M X
  | .if_icmp .gt o => am_popI st fun y st => am_popI st fun x st => am_j pc o fun t => if y < x then K t ls st M X else K (pc + 3) ls st M X
  | .if_icmp .le o => am_popI st fun y st => am_popI st fun x st => am_j pc o fun t => if y < x then K (pc + 3) ls st M X else K t ls st M X
  | .tableswitch d lo hi os => am_popI st fun x st => if x.toInt < lo ∨ hi < x.toInt then am_j pc d fun t => K t ls st M X else (match os[(x.toInt - lo).toNat]? with
    | some o => am_j pc o fun t => K t ls st M X
    | none => none)
  | .lookupswitch d ps => am_popI st fun x st => if (ps.toList.zip (ps.toList.drop 1)).all (fun (a, next) => a.1 < next.1) = true then am_j pc (Op.lookupswitch.offset ps.toList d x.toInt) fun t => K t ls st M X else none
  | .getfield ix => match am_fl (am_own z) ix with
    | none => none
    | some (ci, j) => am_popP st fun l st => am_chk X l ci (if am_fk ci j = 3 then K (pc + 3) ls (.inr (X.1 l j) :: st) M X else K (pc + 3) ls (.inl (.int (M l j)) :: st) M X)
  | .putfield ix => match am_fl (am_own z) ix with
    | none => none
    | some (ci, j) => if am_ff ci j = true ∧ ¬ (am_ini z = true ∧ am_own z = ci) then none else
      if am_fk ci j = 3 then am_popP st fun v st => am_popP st fun l st => am_chk X l ci (if am_al X.2.1 v = true then K (pc + 3) ls st M (am_setT X.1 l j (some v), X.2) else none)
      else am_popI st fun x st => am_popP st fun l st => am_chk X l ci (if am_pc (am_fk ci j) x = true then K (pc + 3) ls st (am_set M l j x) X else none)
  | .iaload => am_popI st fun i st => am_popP st fun l st => if l.1 = 0 then (if l = (0, 0, 0) ∧ ¬ (i < 0 ∨ (M (0, 0, 1) 0).toNatClampNeg ≤ i.toNatClampNeg) then K (pc + 1) ls (.inl (.int (M (0, 0, 0) i.toNatClampNeg)) :: st) M X else none)
      else am_arr X l 1 (am_kd l).2.1 0 i (am_kd l).2.1 fun j => K (pc + 1) ls (.inl (.int (M l j)) :: st) M X
  | .iastore => am_popI st fun x st => am_popI st fun i st => am_popP st fun l st => am_arr X l 1 (am_kd l).2.1 0 i (am_kd l).2.1 fun j => K (pc + 1) ls st (am_set M l j x) X
  | .caload => am_popI st fun i st => am_popP st fun l st => am_arr X l 2 (am_kd l).2.1 0 i (am_kd l).2.1 fun j => K (pc + 1) ls (.inl (.int (M l j)) :: st) M X
  | .castore => am_popI st fun x st => am_popI st fun i st => am_popP st fun l st => am_arr X l 2 (am_kd l).2.1 0 i (am_kd l).2.1 fun j => K (pc + 1) ls st (am_set M l j (vp_nar .char x)) X
  | .aaload => am_popI st fun i st => am_popP st fun l st => am_arr X l 3 (am_kd l).2.1 (am_kd l).2.2 i (am_kd l).2.2 fun j => K (pc + 1) ls (.inr (X.1 l j) :: st) M X
  | .aastore => am_popP st fun v st => am_popI st fun i st => am_popP st fun l st => am_arr X l 3 (am_kd l).2.1 (am_kd l).2.2 i (am_kd l).2.2 fun j => am_chk X v (am_kd l).2.1 (K (pc + 1) ls st M (am_setT X.1 l j (some v), X.2))
  | .laload => am_popI st fun i st => am_popP st fun l st => if l = (1, 0, 0) ∧ ¬ (i < 0 ∨ 13 ≤ i.toNatClampNeg) then am_o2 X.2.2.2.2.1 (fun f => K (pc + 1) ls (.inl (.long (f i.toNatClampNeg)) :: st) M X) none else none
  | .lastore => am_popJ st fun x st => am_popI st fun i st => am_popP st fun l st => if l = (1, 0, 0) ∧ ¬ (i < 0 ∨ 13 ≤ i.toNatClampNeg) ∧ X.2.2.2.2.2 = none then am_o2 X.2.2.2.2.1 (fun f => K (pc + 1) ls st M (X.1, X.2.1, X.2.2.1, X.2.2.2.1, some (fun j => if j = i.toNatClampNeg then x else f j), none)) none else none
  | .arraylength => am_popP st fun l st => if l = (0, 0, 0) then K (pc + 1) ls (.inl (.int (M (0, 0, 1) 0)) :: st) M X else none
  | .invokevirtual ix => match am_ml (am_own z) ix with
    | some (0, y) => am_inv call z 0 y pc ls st M X K F
    | some (10, y) => am_inv call z 10 y pc ls st M X K F
    | some (11, y) => am_inv call z 11 y pc ls st M X K F
    | _ => none
  | .invokestatic ix => match am_ml (am_own z) ix with
    | some (1, y) => am_inv call z 1 y pc ls st M X K F
    | some (4, y) => am_inv call z 1 y pc ls st M X K F
    | some (6, y) => am_inv call z 6 y pc ls st M X K F
    | some (7, y) => am_inv call z 7 y pc ls st M X K F
    | some (8, y) => am_inv call z 8 y pc ls st M X K F
    | some (9, y) => am_inv call z 9 y pc ls st M X K F
    | _ => none
  | .invokespecial ix => match am_ml (am_own z) ix with
    | some (2, y) => am_inv call z 0 y pc ls st M X K F
    | some (3, y) => am_inv call z 0 y pc ls st M X K F
    | some (5, y) => am_inv call z 5 y pc ls st M X K F
    | _ => none
  | .new ix => match am_nw (am_own z) ix with
    | some (.inl ci) => if z = 227 ∧ X.2.1 = none ∧ st = [] then K pc (am_wl ls) [] (am_wp M) (fun _ _ => none, some 0, X.2.2.1, X.2.2.2.1, none, none) else am_nu X (0, ci, 0) (am_cN ci) fun l X => K (pc + 3) ls (.inr (some l) :: st) M X
    | some (.inr (E, ic)) => if am_cd z (pc + 3) = some .dup ∧ am_cd z (pc + 4) = some (.invokespecial ic) ∧ am_cd z (pc + 7) = some .athrow ∧ X.2.1 = none ∧ am_tr z = true then am_sm st (F (.inr E, M, am_bump X)) else none
    | none => am_ca call z pc ls st M X K
  | .newarray .int => am_popI st fun c st => if c < 0 then none else am_nu X (1, c.toNatClampNeg, 0) c.toNatClampNeg fun l X => K (pc + 2) ls (.inr (some l) :: st) M X
  | .newarray .char => am_popI st fun c st => if c < 0 then none else am_nu X (2, c.toNatClampNeg, 0) c.toNatClampNeg fun l X => K (pc + 2) ls (.inr (some l) :: st) M X
  | .newarray .long => am_popI st fun c st => if c = 13 ∧ z = 227 ∧ X.2.1 = none ∧ X.2.2.2.2.1 = none ∧ X.2.2.2.2.2 = none ∧ st = [] then K (pc + 2) (am_wr ls) [.inr (some (1, 0, 0))] M (X.1, none, X.2.2.1 + 1, X.2.2.2.1 + 13, some (fun _ => 0), none) else none
  | .anewarray ix => match am_aw (am_own z) ix with
    | some ci => am_popI st fun c st => if c < 0 then none else am_nu X (3, ci, c.toNatClampNeg) c.toNatClampNeg fun l X => K (pc + 3) ls (.inr (some l) :: st) M X
    | _ => none
  | .return_ => match st, am_rt z with
    | [], 0 => F (.inl none, M, X)
    | _, _ => none
  | .ireturn => match st, am_rt z with
    | [.inl (.int x)], 1 => F (.inl (some (.inl (.int x))), M, X)
    | [.inl (.int x)], 2 => if am_pc 1 x = true then F (.inl (some (.inl (.int x))), M, X) else none
    | [.inl (.int x)], 3 => if am_pc 2 x = true then F (.inl (some (.inl (.int x))), M, X) else none
    | _, _ => none
  | .lreturn => match st, am_rt z with
    | [.inl (.long x)], 7 => F (.inl (some (.inl (.long x))), M, X)
    | _, _ => none
  | .areturn => match st, am_rt z with
    | [.inr (some l)], 6 => F (.inl (some (.inr (some l))), M, X)
    | _, _ => none
  | .freturn => match st, am_rt z with
    | [.inl (.float x)], 4 => F (.inl (some (.inl (.float x))), M, X)
    | _, _ => none
  | .dreturn => match st, am_rt z with
    | [.inl (.double x)], 5 => F (.inl (some (.inl (.double x))), M, X)
    | _, _ => none
  | _ => none
def am_run (call : Nat → List am_V → am_M → am_X → Option am_R) (z : Nat) : Nat → Nat → am_S → List am_V → am_M → am_X → Option am_R
  | 0, _, _, _, _, _ => none
  | n + 1, pc, ls, st, M, X => match am_cd z pc with
    | none => none
    | some i => am_ex call z i pc ls st M X (am_run call z n) some
