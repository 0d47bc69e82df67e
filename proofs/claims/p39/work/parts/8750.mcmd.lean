/-! THE COMMANDS: WHAT ONE DOES, AND THE REFERENCE'S METHODS THAT DO IT -/
/-- an answer and the row after it, or a reason and its detail -/
abbrev Out := (Nat × (Nat → Nat)) ⊕ (Nat × Int32)
theorem in_nI {x : Int32} {n : Nat} (h : am_in x n) : ∃ k, k < n ∧ k < 2147483648 ∧ x = nI k := by
  obtain ⟨h1, h2⟩ := am_in_iff.mp h
  obtain ⟨j, hj, rfl⟩ := nI_of h1
  rw [nI_clamp hj] at h2
  exact ⟨j, h2, hj, rfl⟩
theorem am_inP {k n : Nat} (hk : k < 2147483648) : am_in (nI k) n ↔ k < n := by
  rw [am_in_iff, nI_clamp hk]
  exact ⟨fun h => h.2, fun h => ⟨nI_pos hk, h⟩⟩
theorem bt_nI {x : Int32} {lo hi : Nat} (hlo : lo < 2147483648) (hhi : hi < 2147483648) (h : am_bt x lo hi) : ∃ k, lo ≤ k ∧ k ≤ hi ∧ x = nI k := by
  obtain ⟨h1, h2⟩ := h
  have h0 : ¬ x < 0 := by
    intro q
    refine h1 (Int32.lt_iff_toInt_lt.mpr ?_)
    have := Int32.lt_iff_toInt_lt.mp q
    rw [show (0 : Int32).toInt = 0 from rfl] at this
    rw [nI_toInt hlo]
    omega
  obtain ⟨j, hj, rfl⟩ := nI_of h0
  rw [nI_ltI hj hlo] at h1
  rw [nI_ltI hhi hj] at h2
  exact ⟨j, by omega, by omega, rfl⟩
theorem bt_P {k lo hi : Nat} (hk : k < 2147483648) (hlo : lo < 2147483648) (hhi : hi < 2147483648) : am_bt (nI k) lo hi ↔ lo ≤ k ∧ k ≤ hi := by
  unfold am_bt
  rw [nI_ltI hk hlo, nI_ltI hhi hk]
  omega
/-- a number of a place -/
def cN (x : Int32) : Nat := x.toNatClampNeg
theorem cN_nI {k : Nat} (h : k < 2147483648) : cN (nI k) = k := nI_clamp h
/-- the reference's refusal and its answer -/
def am_rf (M : am_M) (r : Nat) (x : Int32) : am_M := am_set (am_set (am_set M (30, 0, 0) 16 (nI r)) (30, 0, 0) 17 x) (30, 0, 0) 18 (M (30, 0, 0) 15)
def am_dn (M : am_M) (v : Nat) : am_M := am_set M (30, 0, 0) 19 (nI v)
theorem am_rf_pA {M : am_M} {a : Nat → Nat} {r : Nat} {x : Int32} : am_rf (am_pA M a) r x = am_pA (am_rf M r x) a := by
  unfold am_rf
  rw [am_pA_sne (pl_t (by decide)), am_pA_sne (pl_t (by decide)), am_pA_ne (pl_t (by decide)), am_pA_sne (pl_t (by decide))]
theorem am_dn_pA {M : am_M} {a : Nat → Nat} {v : Nat} : am_dn (am_pA M a) v = am_pA (am_dn M v) a := am_pA_sne (pl_t (by decide))
section Kmc
variable {d B : Nat} {M : am_M} {a : Nat → Nat} {w : am_W4}
def am_moR (M : am_M) (a : Nat → Nat) (w : am_W4) : Out → Option am_R
  | .inl (v, a') => some (.inl (some (am_I (nI 1))), am_pA (am_dn M v) a', am_Z w)
  | .inr (r, x) => some (.inl (some (am_I (nI 0))), am_pA (am_rf M r x) a, am_Z w)
theorem dF {p : Prop} [Decidable p] (h : ¬ p) : nI (decide p).toNat = 0 := by rw [decide_eq_false h]; rfl
theorem dT {p : Prop} [Decidable p] (h : p) : ¬ nI (decide p).toNat = 0 := by rw [decide_eq_true h]; exact nI_ne0 (by decide) (by decide)
theorem pc0 : am_pc 1 (nI 0) = true := rfl
theorem pc1 : am_pc 1 (nI 1) = true := rfl
/-- hours from one hour of the day to another -/
theorem hrs {y z : Nat} (hy : y ≤ 23) (hz : z ≤ 23) : (nI z - nI y + nI 24) - (nI z - nI y + nI 24) / nI 24 * nI 24 = nI ((z + 24 - y) % 24) := by
  have e : nI z - nI y + nI 24 = nI (z + 24 - y) := by
    have e1 : nI (z + 24 - y) = nI (z + 24) - nI y := (pk_sub (by omega)).symm
    rw [e1, ← nI_add, Int32.sub_eq_add_neg, Int32.sub_eq_add_neg, Int32.add_assoc, Int32.add_assoc, Int32.add_comm (-nI y)]
  rw [e, pk_rem (by omega) (by decide) (by decide)]
def o_sil (a : Nat → Nat) (x y z : Int32) : Out :=
  if am_in x (a 1) then if am_bt y 0 23 ∧ am_bt z 0 23 then .inl ((cN z + 24 - cN y) % 24, nu (nu a (12 + 6 * cN x + 2) (cN y)) (12 + 6 * cN x + 3) (cN z)) else .inr (1, nI 0) else .inr (3, x)
def o_win (a : Nat → Nat) (x y : Int32) : Out :=
  if am_in x (a 1 - 1) then if am_bt y 0 9 then .inl (a (48 + 2 * cN x + 1), nu a (48 + 2 * cN x + 1) (cN y)) else .inr (1, nI 0) else .inr (3, x)
def o_ear (a : Nat → Nat) (x y : Int32) : Out :=
  if am_in x (a 1) then if am_bt y 0 9 then .inl (a (12 + 6 * cN x + 1), nu a (12 + 6 * cN x + 1) (cN y)) else .inr (1, nI 0) else .inr (3, x)
def o_drp (a : Nat → Nat) (x : Int32) : Out :=
  if am_in x (a 2) then if a (60 + 19 * cN x + 6) = 0 then .inl (a (60 + 19 * cN x + 2), nu a (60 + 19 * cN x + 6) 2) else .inr (7, nI (a (60 + 19 * cN x + 6))) else .inr (3, x)
/-- k hours -/
def ml_ps (a : Nat → Nat) : Nat → (Nat → Nat) × Nat
  | 0 => (a, 0)
  | k + 1 => (ml_goes (ml_ps a k).1, (ml_ps a k).2 + ml_arr (ml_ps a k).1)
def o_pas (a : Nat → Nat) (x : Int32) : Out :=
  if am_bt x 1 96 then .inl ((ml_ps a (cN x)).2, (ml_ps a (cN x)).1) else .inr (1, nI 0)
theorem ml_ps_ok (hB0 : 1000 ≤ B) (h : ml_ok B a) : ∀ k, ml_ok (B + 200 * k) (ml_ps a k).1 := by
  intro k
  induction k with
  | zero => exact h
  | succ k ih =>
    have e := (ml_goes_ok (B := B + 200 * k) (by omega) ih).1
    rw [Nat.mul_succ, ← Nat.add_assoc]
    exact e
end Kmc
