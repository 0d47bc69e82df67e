/-! THE REFERENCE SENDS -/
/-- how many figures z has, and the figure i, from the right -/
def nd : Nat → Nat → Nat
  | 0, _ => 0
  | k + 1, z => if z = 0 then 0 else nd k (z / 10) + 1
def dg (z i : Nat) : Nat := z / 10 ^ i % 10
theorem nd_iff : ∀ {k z : Nat}, z < 10 ^ k → ∀ i, i < nd k z ↔ 10 ^ i ≤ z := by
  intro k
  induction k with
  | zero =>
    intro z hz i
    have : 0 < 10 ^ i := Nat.pow_pos (by decide)
    simp only [nd]
    simp only [Nat.pow_zero] at hz
    omega
  | succ k ih =>
    intro z hz i
    have p : 0 < 10 ^ i := Nat.pow_pos (by decide)
    unfold nd
    by_cases h : z = 0
    · rw [if_pos h]; omega
    · rw [if_neg h]
      have h1 : z / 10 < 10 ^ k := by rw [Nat.pow_succ] at hz; omega
      cases i with
      | zero => simp only [Nat.pow_zero]; omega
      | succ i =>
        rw [Nat.pow_succ]
        have := ih h1 i
        omega
theorem z0 : ¬ (0 : Int32) < nI 0 := nI_nlt (Nat.le_refl 0) (by decide)
theorem nI_gt0 {n : Nat} (h0 : 0 < n) (h : n < 2147483648) : (0 : Int32) < nI n := nI_lt (a := 0) h0 h
theorem nd_le {k z : Nat} : nd k z ≤ k := by
  induction k generalizing z with
  | zero => exact Nat.le_refl _
  | succ k ih =>
    unfold nd
    split
    · exact Nat.zero_le _
    · exact Nat.succ_le_succ ih
theorem nd_div {z : Nat} (hz : z < 10 ^ 8) : z / 10 ^ nd 8 z = 0 := by
  have h := nd_iff hz (nd 8 z)
  exact Nat.div_eq_of_lt (by omega)
theorem nd_pos {z i : Nat} (hz : z < 10 ^ 8) (h : i < nd 8 z) : 0 < z / 10 ^ i := Nat.div_pos ((nd_iff hz i).mp h) (Nat.pow_pos (by decide))
theorem dg_next (z i : Nat) : z / 10 ^ i / 10 = z / 10 ^ (i + 1) := by rw [Nat.div_div_eq_div_mul, Nat.pow_succ]
theorem dg_lt (z i : Nat) : dg z i < 10 := Nat.mod_lt _ (by decide)
theorem dv_lt {z i : Nat} (hz : z < 10 ^ 8) : z / 10 ^ i < 10 ^ 8 := Nat.lt_of_le_of_lt (Nat.div_le_self _ _) hz
abbrev dgk (z : Nat) : Prop := ∀ i, i < nd 8 z → 1 ≤ dg z i ∧ dg z i ≤ 8
/-- the sign that no psalm has, the leftmost -/
def uk (a : Nat → Nat) (z : Nat) : Nat → Nat := fo (fun u i => if a (3 + dg z i) = 0 then dg z i else u) 0
def sn_z (a : Nat → Nat) (m : Nat) : Nat → (Nat → Nat) := fo (fun b i => nu b (60 + 19 * m + i) 0) a
def sn_g (a : Nat → Nat) (m s z : Nat) : Nat → (Nat → Nat) := fo (fun b i => nu b (60 + 19 * m + (11 + (s - 1 - i))) (dg z i)) a
def sn_f (b : Nat → Nat) (m x y s h p : Nat) : Nat → Nat := nu (nu (nu (nu (nu (nu (nu (nu b (60 + 19 * m + 0) x) (60 + 19 * m + 1) y) (60 + 19 * m + 2) x) (60 + 19 * m + 3) s) (60 + 19 * m + 7) h) 3 (p + 1)) (60 + 19 * m + 8) p) (60 + 19 * m + 9) 1
def sn (a : Nat → Nat) (x y z : Nat) : Nat → Nat := sn_g (sn_f (sn_z (nu a 2 (a 2 + 1)) (a 2) 19) (a 2) x y (nd 8 z) (a 0) (a 3)) (a 2) (nd 8 z) z (nd 8 z)
def o_snd (a : Nat → Nat) (x y z : Int32) : Out :=
  if am_in x (a 1) then if am_in y (a 1) then if x = y then .inr (5, x) else if am_bt z 1 88888888 then if dgk (cN z) then if 0 < uk a (cN z) (nd 8 (cN z)) then .inr (4, nI (uk a (cN z) (nd 8 (cN z)))) else if a 2 = 16 then .inr (2, nI 16) else .inl (a 2, sn a (cN x) (cN y) (cN z)) else .inr (1, nI 0) else .inr (1, nI 0) else .inr (3, y) else .inr (3, x)
theorem sn_z_out {a : Nat → Nat} {m j : Nat} : ∀ {i : Nat}, (j < 60 + 19 * m ∨ 60 + 19 * m + i ≤ j) → sn_z a m i j = a j := by
  intro i
  induction i with
  | zero => intro _; rfl
  | succ i ih =>
    intro h
    rw [show sn_z a m (i + 1) = nu (sn_z a m i) (60 + 19 * m + i) 0 from rfl, nu_ne (by omega)]
    exact ih (by omega)
theorem sn_z_in {a : Nat → Nat} {m f : Nat} : ∀ {i : Nat}, f < i → sn_z a m i (60 + 19 * m + f) = 0 := by
  intro i
  induction i with
  | zero => intro h; omega
  | succ i ih =>
    intro h
    rw [show sn_z a m (i + 1) = nu (sn_z a m i) (60 + 19 * m + i) 0 from rfl]
    by_cases e : f = i
    · rw [e, nu_eq]
    · rw [nu_ne (by omega)]
      exact ih (by omega)
section Kms
variable {d B : Nat} {M : am_M} {a : Nat → Nat} {w : am_W4}
theorem uk_lt {z : Nat} : ∀ k, uk a z k < 10 := by
  intro k
  induction k with
  | zero => exact Nat.zero_lt_succ _
  | succ k ih =>
    show (if a (3 + dg z k) = 0 then dg z k else uk a z k) < 10
    split
    · exact dg_lt z k
    · exact ih
end Kms
