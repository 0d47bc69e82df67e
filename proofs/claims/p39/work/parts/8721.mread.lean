/-! THE REFERENCE'S READING METHODS -/
/-- how many below n -/
def nc (P : Nat → Bool) : Nat → Nat
  | 0 => 0
  | n + 1 => nc P n + (P n).toNat
theorem nc_le (P : Nat → Bool) : ∀ n, nc P n ≤ n
  | 0 => Nat.le_refl 0
  | n + 1 => by
    have := nc_le P n
    have h2 := Bool.toNat_le (P n)
    show nc P n + (P n).toNat ≤ n + 1
    omega
/-- the first from k on, among r -/
def nf (P : Nat → Bool) : Nat → Nat → Option Nat
  | 0, _ => none
  | r + 1, k => if P k = true then some k else nf P r (k + 1)
def oI (o : Option Nat) : Int32 := match o with
  | some m => nI m
  | none => -1
theorem oI_n : oI none = -1 := rfl
theorem oI_s (m : Nat) : oI (some m) = nI m := rfl
/-- the numbers of a row 'now' are small -/
def ml_b (B : Nat) (a : Nat → Nat) : Prop := a 1 ≤ 6 ∧ a 2 ≤ 16 ∧ (∀ j, j < 364 → a j ≤ B) ∧ (∀ m f, m < 16 → f < 19 → f ≠ 7 → f ≠ 8 → a (60 + 19 * m + f) < 100) ∧ (∀ c f, c < 6 → f < 4 → a (12 + 6 * c + f) < 100) ∧ (∀ j, 4 ≤ j → j < 12 → a j < 1000) ∧ (∀ j, 48 ≤ j → j < 60 → a j < 100)
section Kmr
variable {d B : Nat} {M : am_M} {a : Nat → Nat} {w : am_W4}
def ml_silent (a : Nat → Nat) (c : Nat) : Bool := decide (a (12 + 6 * c + 2) ≠ a (12 + 6 * c + 3) ∧ (if a (12 + 6 * c + 2) < a (12 + 6 * c + 3) then a (12 + 6 * c + 2) ≤ a 0 % 24 ∧ a 0 % 24 < a (12 + 6 * c + 3) else a (12 + 6 * c + 2) ≤ a 0 % 24 ∨ a 0 % 24 < a (12 + 6 * c + 3)))
def ml_lostP (a : Nat → Nat) (m : Nat) : Nat → Bool := fun k => decide (a (60 + 19 * m + (11 + k)) = 0)
def ml_lost (a : Nat → Nat) (m : Nat) : Nat := nc (ml_lostP a m) (a (60 + 19 * m + 3))
/-- who waits at c and came before m -/
def ml_befP (a : Nat → Nat) (m c : Nat) : Nat → Bool := fun q => ml_waits a q c && decide (a (60 + 19 * q + 8) < a (60 + 19 * m + 8))
def ml_bef (a : Nat → Nat) (m c : Nat) : Nat := nc (ml_befP a m c) (a 2)
def ml_wtP (a : Nat → Nat) (c : Nat) (x : Int32) : Nat → Bool := fun m => ml_waits a m c && decide (nI (ml_bef a m c) = x)
/-- who waits at c at the place x -/
def ml_wt (a : Nat → Nat) (c : Nat) (x : Int32) : Option Nat := nf (ml_wtP a c x) (a 2) 0
/-- the strength of the bell of c at its neighbour n, the ridge r between -/
def ml_str (a : Nat → Nat) (c n r : Nat) : Int32 := nI 24 - nI (a (12 + 6 * c + 0)) + nI (a (12 + 6 * n + 1)) - nI (2 * a (48 + 2 * r)) - nI (a (48 + 2 * r + 1))
/-- would the listener of n hear the bell of c -/
def ml_heard (a : Nat → Nat) (c n : Nat) : Bool := decide (¬ ml_str a c n (if n < c then n else c) < nI 10 ∧ 0 < a (12 + 6 * n + 1))
end Kmr
