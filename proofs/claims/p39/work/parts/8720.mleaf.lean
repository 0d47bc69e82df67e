/-! THE REFERENCE'S SMALL METHODS. The row 'now' holds numbers a j; am_pA M a is the memory M with a in that row -/
def nu (a : Nat → Nat) (i v : Nat) : Nat → Nat := fun j => if j = i then v else a j
theorem nu_eq (a : Nat → Nat) (i v : Nat) : nu a i v i = v := if_pos rfl
theorem nu_ne {a : Nat → Nat} {i v j : Nat} (h : j ≠ i) : nu a i v j = a j := if_neg h
def am_pA (M : am_M) (a : Nat → Nat) : am_M := fun l j => if l = (31, 0, 0) then nI (a j) else M l j
theorem am_pA_now (M : am_M) (a : Nat → Nat) (j : Nat) : am_pA M a (31, 0, 0) j = nI (a j) := if_pos rfl
theorem am_pA_ne {M : am_M} {a : Nat → Nat} {l : am_L} {j : Nat} (h : l ≠ (31, 0, 0)) : am_pA M a l j = M l j := if_neg h
theorem am_pA_set (M : am_M) (a : Nat → Nat) (i v : Nat) : am_set (am_pA M a) (31, 0, 0) i (nI v) = am_pA M (nu a i v) := by
  funext l j
  unfold am_set am_pA nu
  by_cases h : l = (31, 0, 0)
  · subst h
    by_cases hj : j = i
    · subst hj; simp
    · simp [hj]
  · simp [h]
theorem am_pA_sne {M : am_M} {a : Nat → Nat} {l : am_L} {i : Nat} {x : Int32} (h : l ≠ (31, 0, 0)) : am_set (am_pA M a) l i x = am_pA (am_set M l i x) a := by
  funext l' j
  unfold am_set am_pA
  by_cases h1 : l' = (31, 0, 0)
  · subst h1
    rw [if_neg (fun e => h e.1.symm), if_pos rfl, if_pos rfl]
  · rw [if_neg h1]
    by_cases h2 : l' = l ∧ j = i
    · rw [if_pos h2, if_neg h1]; exact (if_pos h2).symm
    · rw [if_neg h2, if_neg h1]; exact (if_neg h2).symm
theorem am_pA_self {M : am_M} {a : Nat → Nat} (h : ∀ j, M (31, 0, 0) j = nI (a j)) : am_pA M a = M := by
  funext l j
  unfold am_pA
  by_cases h1 : l = (31, 0, 0)
  · subst h1; rw [if_pos rfl, h j]
  · rw [if_neg h1]
theorem am_pA_pA (M : am_M) (a b : Nat → Nat) : am_pA (am_pA M a) b = am_pA M b := by
  funext l j
  unfold am_pA
  by_cases h1 : l = (31, 0, 0)
  · subst h1; rw [if_pos rfl, if_pos rfl]
  · rw [if_neg h1, if_neg h1, if_neg h1]
theorem am_cb_i (v : Option am_V) (M : am_M) (X : am_X) (K : Option am_V → am_M → am_X → Option am_R) : am_cb (some (.inl v, M, X)) K = K v M X := rfl
theorem am_cb_e (E : Nat) (M : am_M) (X : am_X) (K : Option am_V → am_M → am_X → Option am_R) : am_cb (some (.inr E, M, X)) K = some (.inr E, M, X) := rfl
theorem am_inT {a n : Nat} (h : a < 2147483648) (hn : a < n) : (am_in (nI a) n) = True := by
  refine eq_true ?_
  rintro (h1 | h1)
  · exact nI_pos h h1
  · rw [nI_clamp h] at h1; omega
theorem nI_ltJ {a b : Nat} (ha : a < 2147483648) (hb : b < 2147483648) : (nI a < nI b) = (a < b) := propext (nI_ltI ha hb)
theorem nI_eqI {a b : Nat} (ha : a < 2147483648) (hb : b < 2147483648) : (nI a = nI b) = (a = b) := propext (nI_eq ha hb)
theorem nI_z {a : Nat} (ha : a < 2147483648) : (nI a = 0) = (a = 0) := propext (nI_eq ha (b := 0) (by decide))
theorem nI_n0 {a : Nat} (ha : a < 2147483648) : (nI a < 0) = False := eq_false (nI_pos ha)
theorem nI_bz (b : Bool) : (nI b.toNat = 0) = (b = false) := by cases b <;> simp [nI]
theorem am_pcb (b : Bool) : (am_pc 1 (nI b.toNat) = true) = True := by cases b <;> exact eq_true rfl
theorem am_pc01 {n : Nat} (h : n < 2) : am_pc 1 (nI n) = true := by
  have : n = 0 ∨ n = 1 := by omega
  rcases this with rfl | rfl <;> rfl
/-- between two numbers -/
abbrev am_bt (x : Int32) (lo hi : Nat) : Prop := ¬ x < nI lo ∧ ¬ nI hi < x
theorem am_in_iff {x : Int32} {n : Nat} : am_in x n ↔ ¬ x < 0 ∧ x.toNatClampNeg < n := by
  constructor
  · intro h; exact ⟨fun q => h (Or.inl q), am_in_lt' h⟩
  · rintro ⟨h1, h2⟩ (q | q)
    · exact h1 q
    · omega
/-- a place below n, as the reference asks it: from 0 to n - k -/
theorem am_ix_k {x : Int32} {n k : Nat} (hn : n < 1000) (hk : k < 10) (hk0 : 0 < k) : (¬ x < nI 0 ∧ ¬ nI n - nI k < x) ↔ am_in x (n + 1 - k) := by
  have h0 : nI 0 = 0 := rfl
  rw [h0, am_in_iff]
  constructor
  · rintro ⟨h1, h2⟩
    obtain ⟨j, hj, rfl⟩ := nI_of h1
    refine ⟨h1, ?_⟩
    rw [nI_clamp hj]
    rcases Nat.lt_or_ge n k with h | h
    · exact absurd (by
        have e := pk_sub_toInt (a := n) (b := k) (by omega) (by omega)
        apply Int32.lt_iff_toInt_lt.mpr
        rw [e, nI_toInt hj]; omega) h2
    · rw [pk_sub h, nI_ltI (by omega) hj] at h2
      omega
  · rintro ⟨h1, h2⟩
    obtain ⟨j, hj, rfl⟩ := nI_of h1
    refine ⟨h1, ?_⟩
    rw [nI_clamp hj] at h2
    rcases Nat.lt_or_ge n k with h | h
    · omega
    · rw [pk_sub h, nI_ltI (by omega) hj]
      omega
section Kml
variable {d : Nat} {M : am_M} {a : Nat → Nat} {w : am_W4}
def ml_waits (a : Nat → Nat) (m c : Nat) : Bool := decide (a (60 + 19 * m + 6) = 0 ∧ a (60 + 19 * m + 2) = c)
/-- the next convent on the way -/
def ml_next (a : Nat → Nat) (m : Nat) : Nat := if a (60 + 19 * m + 2) < a (60 + 19 * m + 1) then a (60 + 19 * m + 2) + 1 else a (60 + 19 * m + 2) - 1
end Kml
