/-! THE COMMANDS: WHAT ONE DOES, AND THE REFERENCE'S METHODS THAT DO IT -/
/-- an answer and the row after it, or a reason and its detail -/
abbrev Out := (Nat × (Nat → Nat)) ⊕ (Nat × Int32)
theorem in_nI {x : Int32} {n : Nat} (h : am_in x n) : ∃ k, k < n ∧ k < 2147483648 ∧ x = nI k := by
  obtain ⟨h1, h2⟩ := am_in_iff.mp h
  obtain ⟨j, hj, rfl⟩ := nI_of h1
  rw [nI_clamp hj] at h2
  exact ⟨j, h2, hj, rfl⟩
theorem am_inP {k n : Nat} (hk : k < 2147483648) : am_in (nI k) n ↔ k < n := by
  rw [am_in_iff, nI_clamp hk]
  exact ⟨fun h => h.2, fun h => ⟨nI_pos hk, h⟩⟩
theorem bt_nI {x : Int32} {lo hi : Nat} (hlo : lo < 2147483648) (hhi : hi < 2147483648) (h : am_bt x lo hi) : ∃ k, lo ≤ k ∧ k ≤ hi ∧ x = nI k := by
  obtain ⟨h1, h2⟩ := h
  have h0 : ¬ x < 0 := by
    intro q
    refine h1 (Int32.lt_iff_toInt_lt.mpr ?_)
    have := Int32.lt_iff_toInt_lt.mp q
    rw [show (0 : Int32).toInt = 0 from rfl] at this
    rw [nI_toInt hlo]
    omega
  obtain ⟨j, hj, rfl⟩ := nI_of h0
  rw [nI_ltI hj hlo] at h1
  rw [nI_ltI hhi hj] at h2
  exact ⟨j, by omega, by omega, rfl⟩
theorem bt_P {k lo hi : Nat} (hk : k < 2147483648) (hlo : lo < 2147483648) (hhi : hi < 2147483648) : am_bt (nI k) lo hi ↔ lo ≤ k ∧ k ≤ hi := by
  unfold am_bt
  rw [nI_ltI hk hlo, nI_ltI hhi hk]
  omega
/-- a number of a place -/
def cN (x : Int32) : Nat := x.toNatClampNeg
theorem cN_nI {k : Nat} (h : k < 2147483648) : cN (nI k) = k := nI_clamp h
/-- the reference's refusal and its answer -/
def am_rf (M : am_M) (r : Nat) (x : Int32) : am_M := am_set (am_set (am_set M (30, 0, 0) 16 (nI r)) (30, 0, 0) 17 x) (30, 0, 0) 18 (M (30, 0, 0) 15)
def am_dn (M : am_M) (v : Nat) : am_M := am_set M (30, 0, 0) 19 (nI v)
theorem am_rf_pA {M : am_M} {a : Nat → Nat} {r : Nat} {x : Int32} : am_rf (am_pA M a) r x = am_pA (am_rf M r x) a := by
  unfold am_rf
  rw [am_pA_sne (pl_t (by decide)), am_pA_sne (pl_t (by decide)), am_pA_ne (pl_t (by decide)), am_pA_sne (pl_t (by decide))]
theorem am_dn_pA {M : am_M} {a : Nat → Nat} {v : Nat} : am_dn (am_pA M a) v = am_pA (am_dn M v) a := am_pA_sne (pl_t (by decide))
section Kmc
variable {d B : Nat} {M : am_M} {a : Nat → Nat} {w : am_W4}
def am_mo (M : am_M) (a : Nat → Nat) (w : am_W4) : Out → Option am_R
  | .inl (v, a') => some (.inl (some (am_I (nI 1))), am_pA (am_dn M v) a', am_Z w)
  | .inr (r, x) => some (.inl (some (am_I (nI 0))), am_pA (am_rf M r x) a, am_Z w)
theorem k122 {r : Nat} {x : Int32} : am_ev (d + 1) 122 [am_P (30, 0, 0), am_I (nI r), am_I x] M (am_Z w) = some (.inl (some (am_I (nI 0))), am_rf M r x, am_Z w) := by
  rw [e122, b122_10, as_j (by decide), as_j (by decide)]
  rfl
theorem k123 {v : Nat} : am_ev (d + 1) 123 [am_P (30, 0, 0), am_I (nI v)] M (am_Z w) = some (.inl (some (am_I (nI 1))), am_dn M v, am_Z w) := by
  rw [e123]
  rfl
theorem dF {p : Prop} [Decidable p] (h : ¬ p) : nI (decide p).toNat = 0 := by rw [decide_eq_false h]; rfl
theorem dT {p : Prop} [Decidable p] (h : p) : ¬ nI (decide p).toNat = 0 := by rw [decide_eq_true h]; exact nI_ne0 (by decide) (by decide)
theorem pc0 : am_pc 1 (nI 0) = true := rfl
theorem pc1 : am_pc 1 (nI 1) = true := rfl
/-- hours from one hour of the day to another -/
theorem hrs {y z : Nat} (hy : y ≤ 23) (hz : z ≤ 23) : (nI z - nI y + nI 24) - (nI z - nI y + nI 24) / nI 24 * nI 24 = nI ((z + 24 - y) % 24) := by
  have e : nI z - nI y + nI 24 = nI (z + 24 - y) := by
    have e1 : nI (z + 24 - y) = nI (z + 24) - nI y := (pk_sub (by omega)).symm
    rw [e1, ← nI_add, Int32.sub_eq_add_neg, Int32.sub_eq_add_neg, Int32.add_assoc, Int32.add_assoc, Int32.add_comm (-nI y)]
  rw [e, pk_rem (by omega) (by decide) (by decide)]
def o_sil (a : Nat → Nat) (x y z : Int32) : Out :=
  if am_in x (a 1) then if am_bt y 0 23 ∧ am_bt z 0 23 then .inl ((cN z + 24 - cN y) % 24, nu (nu a (12 + 6 * cN x + 2) (cN y)) (12 + 6 * cN x + 3) (cN z)) else .inr (1, nI 0) else .inr (3, x)
theorem k134 {x y z : Int32} (h1 : a 1 ≤ 6) : am_ev (d + 3) 134 [am_P (30, 0, 0), am_I x, am_I y, am_I z] (am_pA M a) (am_Z w) = am_mo M a w (o_sil a x y z) := by
  rw [e134, k125 (by omega)]
  simp only [am_cb_i, am_cb_e, Option.toList_some, Option.toList_none, List.cons_append, List.nil_append, b134_5]
  unfold o_sil
  by_cases hx : am_in x (a 1)
  · rw [if_neg (dT hx), if_pos hx, k116]
    obtain ⟨x, hx', hx2, rfl⟩ := in_nI hx
    simp only [am_cb_i, am_cb_e, Option.toList_some, Option.toList_none, List.cons_append, List.nil_append, b134_22]
    by_cases hy : am_bt y 0 23
    · rw [if_neg (dT hy), k116]
      simp only [am_cb_i, am_cb_e, Option.toList_some, Option.toList_none, List.cons_append, List.nil_append, b134_32]
      by_cases hz : am_bt z 0 23
      · obtain ⟨y, _, hy', rfl⟩ := bt_nI (by omega) (by omega) hy
        obtain ⟨z, _, hz', rfl⟩ := bt_nI (by omega) (by omega) hz
        rw [if_neg (dT hz), if_pos (c := am_bt (nI y) 0 23 ∧ am_bt (nI z) 0 23) ⟨hy, hz⟩, cN_nI hx2, cN_nI (by omega), cN_nI (by omega), hrs hy' hz']
        simp (disch := omega) only [nI_add, pk_mul, am_inT, nI_clamp, if_true, if_false, ite_true, ite_false, am_pA_now, am_pA_set]
        rw [k123, am_dn_pA]
        simp only [am_cb_i, am_cb_e, Option.toList_some, Option.toList_none, List.cons_append, List.nil_append, b134_85, if_pos pc1]
        rfl
      · rw [if_pos (dF hz), b134_35, k122, if_neg (fun q => hz q.2), am_rf_pA]
        simp only [am_cb_i, am_cb_e, Option.toList_some, Option.toList_none, List.cons_append, List.nil_append, b134_41, if_pos pc0]
        rfl
    · rw [if_pos (dF hy), b134_35, k122, if_neg (fun q => hy q.1), am_rf_pA]
      simp only [am_cb_i, am_cb_e, Option.toList_some, Option.toList_none, List.cons_append, List.nil_append, b134_41, if_pos pc0]
      rfl
  · rw [if_pos (dF hx), if_neg hx, k122, am_rf_pA]
    simp only [am_cb_i, am_cb_e, Option.toList_some, Option.toList_none, List.cons_append, List.nil_append, b134_14, if_pos pc0]
    rfl
def o_win (a : Nat → Nat) (x y : Int32) : Out :=
  if am_in x (a 1 - 1) then if am_bt y 0 9 then .inl (a (48 + 2 * cN x + 1), nu a (48 + 2 * cN x + 1) (cN y)) else .inr (1, nI 0) else .inr (3, x)
theorem k136 {x y : Int32} (h1 : a 1 ≤ 6) : am_ev (d + 3) 136 [am_P (30, 0, 0), am_I x, am_I y] (am_pA M a) (am_Z w) = am_mo M a w (o_win a x y) := by
  rw [e136, k126 (by omega)]
  simp only [am_cb_i, am_cb_e, Option.toList_some, Option.toList_none, List.cons_append, List.nil_append, b136_5]
  unfold o_win
  by_cases hx : am_in x (a 1 - 1)
  · rw [if_neg (dT hx), if_pos hx, k116]
    obtain ⟨x, hx', hx2, rfl⟩ := in_nI hx
    simp only [am_cb_i, am_cb_e, Option.toList_some, Option.toList_none, List.cons_append, List.nil_append, b136_22]
    by_cases hy : am_bt y 0 9
    · obtain ⟨y, _, hy', rfl⟩ := bt_nI (by omega) (by omega) hy
      rw [if_neg (dT hy), if_pos hy, k131 (by omega)]
      simp only [am_cb_i, am_cb_e, Option.toList_some, Option.toList_none, List.cons_append, List.nil_append, b136_37]
      rw [cN_nI hx2, cN_nI (by omega)]
      simp (disch := omega) only [nI_add, pk_mul, am_inT, nI_clamp, if_true, if_false, ite_true, ite_false, am_pA_now, am_pA_set]
      rw [k123, am_dn_pA]
      simp only [am_cb_i, am_cb_e, Option.toList_some, Option.toList_none, List.cons_append, List.nil_append, b136_57, if_pos pc1]
      rfl
    · rw [if_pos (dF hy), k122, if_neg hy, am_rf_pA]
      simp only [am_cb_i, am_cb_e, Option.toList_some, Option.toList_none, List.cons_append, List.nil_append, b136_31, if_pos pc0]
      rfl
  · rw [if_pos (dF hx), if_neg hx, k122, am_rf_pA]
    simp only [am_cb_i, am_cb_e, Option.toList_some, Option.toList_none, List.cons_append, List.nil_append, b136_14, if_pos pc0]
    rfl
def o_ear (a : Nat → Nat) (x y : Int32) : Out :=
  if am_in x (a 1) then if am_bt y 0 9 then .inl (a (12 + 6 * cN x + 1), nu a (12 + 6 * cN x + 1) (cN y)) else .inr (1, nI 0) else .inr (3, x)
theorem k138 {x y : Int32} (h1 : a 1 ≤ 6) : am_ev (d + 3) 138 [am_P (30, 0, 0), am_I x, am_I y] (am_pA M a) (am_Z w) = am_mo M a w (o_ear a x y) := by
  rw [e138, k125 (by omega)]
  simp only [am_cb_i, am_cb_e, Option.toList_some, Option.toList_none, List.cons_append, List.nil_append, b138_5]
  unfold o_ear
  by_cases hx : am_in x (a 1)
  · rw [if_neg (dT hx), if_pos hx, k116]
    obtain ⟨x, hx', hx2, rfl⟩ := in_nI hx
    simp only [am_cb_i, am_cb_e, Option.toList_some, Option.toList_none, List.cons_append, List.nil_append, b138_22]
    by_cases hy : am_bt y 0 9
    · obtain ⟨y, _, hy', rfl⟩ := bt_nI (by omega) (by omega) hy
      rw [if_neg (dT hy), if_pos hy, k128 (by omega) (by decide)]
      simp only [am_cb_i, am_cb_e, Option.toList_some, Option.toList_none, List.cons_append, List.nil_append, b138_38]
      rw [cN_nI hx2, cN_nI (by omega)]
      simp (disch := omega) only [nI_add, pk_mul, am_inT, nI_clamp, if_true, if_false, ite_true, ite_false, am_pA_now, am_pA_set]
      rw [k123, am_dn_pA]
      simp only [am_cb_i, am_cb_e, Option.toList_some, Option.toList_none, List.cons_append, List.nil_append, b138_59, if_pos pc1]
      rfl
    · rw [if_pos (dF hy), k122, if_neg hy, am_rf_pA]
      simp only [am_cb_i, am_cb_e, Option.toList_some, Option.toList_none, List.cons_append, List.nil_append, b138_31, if_pos pc0]
      rfl
  · rw [if_pos (dF hx), if_neg hx, k122, am_rf_pA]
    simp only [am_cb_i, am_cb_e, Option.toList_some, Option.toList_none, List.cons_append, List.nil_append, b138_14, if_pos pc0]
    rfl
def o_drp (a : Nat → Nat) (x : Int32) : Out :=
  if am_in x (a 2) then if a (60 + 19 * cN x + 6) = 0 then .inl (a (60 + 19 * cN x + 2), nu a (60 + 19 * cN x + 6) 2) else .inr (7, nI (a (60 + 19 * cN x + 6))) else .inr (3, x)
theorem k142 {x : Int32} (hb : ml_b B a) : am_ev (d + 3) 142 [am_P (30, 0, 0), am_I x] (am_pA M a) (am_Z w) = am_mo M a w (o_drp a x) := by
  have h2 := hb.2.1
  rw [e142, k127 (by omega)]
  simp only [am_cb_i, am_cb_e, Option.toList_some, Option.toList_none, List.cons_append, List.nil_append, b142_5]
  unfold o_drp
  by_cases hx : am_in x (a 2)
  · obtain ⟨x, hx', hx2, rfl⟩ := in_nI hx
    have h6 := hb.2.2.2.1 x 6 (by omega) (by decide) (by decide) (by decide)
    rw [if_neg (dT hx), if_pos hx, k129 (by omega) (by decide)]
    simp only [am_cb_i, am_cb_e, Option.toList_some, Option.toList_none, List.cons_append, List.nil_append, b142_22]
    rw [cN_nI hx2]
    by_cases h0 : a (60 + 19 * x + 6) = 0
    · rw [if_pos (by rw [nI_z (by omega)]; exact h0), if_pos h0, k130 (by omega) (by decide)]
      simp only [am_cb_i, am_cb_e, Option.toList_some, Option.toList_none, List.cons_append, List.nil_append, b142_47]
      rw [k129 (by omega) (by decide), nu_ne (by omega)]
      simp only [am_cb_i, am_cb_e, Option.toList_some, Option.toList_none, List.cons_append, List.nil_append, b142_54]
      rw [k123, am_dn_pA]
      simp only [am_cb_i, am_cb_e, Option.toList_some, Option.toList_none, List.cons_append, List.nil_append, b142_57, if_pos pc1]
      rfl
    · rw [if_neg (by rw [nI_z (by omega)]; exact h0), if_neg h0, k129 (by omega) (by decide)]
      simp only [am_cb_i, am_cb_e, Option.toList_some, Option.toList_none, List.cons_append, List.nil_append, b142_35]
      rw [k122, am_rf_pA]
      simp only [am_cb_i, am_cb_e, Option.toList_some, Option.toList_none, List.cons_append, List.nil_append, b142_38, if_pos pc0]
      rfl
  · rw [if_pos (dF hx), if_neg hx, k122, am_rf_pA]
    simp only [am_cb_i, am_cb_e, Option.toList_some, Option.toList_none, List.cons_append, List.nil_append, b142_14, if_pos pc0]
    rfl
/-- k hours -/
def ml_ps (a : Nat → Nat) : Nat → (Nat → Nat) × Nat
  | 0 => (a, 0)
  | k + 1 => (ml_goes (ml_ps a k).1, (ml_ps a k).2 + ml_arr (ml_ps a k).1)
def o_pas (a : Nat → Nat) (x : Int32) : Out :=
  if am_bt x 1 96 then .inl ((ml_ps a (cN x)).2, (ml_ps a (cN x)).1) else .inr (1, nI 0)
theorem ml_ps_ok (hB0 : 1000 ≤ B) (h : ml_ok B a) : ∀ k, ml_ok (B + 200 * k) (ml_ps a k).1 := by
  intro k
  induction k with
  | zero => exact h
  | succ k ih =>
    have e := (ml_goes_ok (B := B + 200 * k) (by omega) ih).1
    rw [Nat.mul_succ, ← Nat.add_assoc]
    exact e
theorem l154 {x : Nat} (hB0 : 1000 ≤ B) (hB : B < 1070000000) (h : ml_ok B a) (hx : x ≤ 96) : ∀ r k, k + r = x → am_rn (am_ev (d + 5)) 154 21 [some (am_P (30, 0, 0)), some (am_I (nI x)), some (am_I (nI (ml_ps a k).2)), some (am_I (nI k))] [] (am_pA M (ml_ps a k).1) (am_Z w) = some (.inl (some (am_I (nI 1))), am_pA (am_dn M (ml_ps a x).2) (ml_ps a x).1, am_Z w) := by
  intro r
  induction r with
  | zero =>
    intro k hk
    rw [b154_21, if_neg (nI_nlt (by omega) (by omega)), show k = x by omega, k123, am_dn_pA]
    simp only [am_cb_i, am_cb_e, Option.toList_some, Option.toList_none, List.cons_append, List.nil_append, b154_44, if_pos pc1]
  | succ r ih =>
    intro k hk
    rw [b154_21, if_pos (nI_lt (by omega) (by omega)), k152 (by omega) (by omega) (ml_ps_ok hB0 h k)]
    simp only [am_cb_i, am_cb_e, Option.toList_some, Option.toList_none, List.cons_append, List.nil_append, b154_31, nI_add]
    exact ih (k + 1) (by omega)
theorem k154 {x : Int32} (hB0 : 1000 ≤ B) (hB : B < 1070000000) (h : ml_ok B a) : am_ev (d + 6) 154 [am_P (30, 0, 0), am_I x] (am_pA M a) (am_Z w) = am_mo M a w (o_pas a x) := by
  rw [e154, k116]
  simp only [am_cb_i, am_cb_e, Option.toList_some, Option.toList_none, List.cons_append, List.nil_append, b154_7]
  unfold o_pas
  by_cases hx : am_bt x 1 96
  · obtain ⟨x, hx1, hx', rfl⟩ := bt_nI (by omega) (by omega) hx
    rw [if_neg (dT hx), if_pos hx, cN_nI (by omega)]
    exact l154 hB0 hB h hx' x 0 (by omega)
  · rw [if_pos (dF hx), if_neg hx, k122, am_rf_pA]
    simp only [am_cb_i, am_cb_e, Option.toList_some, Option.toList_none, List.cons_append, List.nil_append, b154_16, if_pos pc0]
    rfl
end Kmc
