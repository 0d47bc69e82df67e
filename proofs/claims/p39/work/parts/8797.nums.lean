/-! NUMBERS IN A TEXT, ON BOTH SIDES -/
section Knu
variable {d : Nat} {M M' : am_M} {w : am_W4} {tx : List Int32}
theorem cps_self {p : Nat} (h : M (8, 0, 0) 4 = nI p) : cps M p = M := by
  funext l j
  unfold cps am_set
  by_cases q : l = (8, 0, 0) ∧ j = 4
  · rw [if_pos q, q.1, q.2, h]
  · rw [if_neg q]
theorem pm_s {lo hi k p acc : Nat} : pm tx lo hi (k + 1) p acc = match pd tx lo hi p with | some v => ((pm tx lo hi k (p + 1) (10 * acc + v)).1, (pm tx lo hi k (p + 1) (10 * acc + v)).2.1, (pm tx lo hi k (p + 1) (10 * acc + v)).2.2 + 1) | none => (acc, p, 0) := rfl
theorem k13 {p : Nat} (ht : txk tx) (h : ctx tx M) (h4 : M (8, 0, 0) 4 = nI p) (hp : p ≤ 500) : am_ev (d + 3) 13 [am_P (8, 0, 0)] M (am_Z w) = some (.inl (some (am_I (if (pm tx 0 9 2 p 0).2.2 = 0 then -1 else nI (pm tx 0 9 2 p 0).1))), cps M (pm tx 0 9 2 p 0).2.1, am_Z w) := by
  rw [e13, k12 (by decide) (by decide) ht h h4 (by omega), pm_s]
  cases h1 : pd tx 0 9 p with
  | none =>
    simp only [am_cb_i, am_cb_e, Option.toList_some, Option.toList_none, List.cons_append, List.nil_append, b13_7]
    rw [if_pos trivial, if_pos trivial, cps_self h4]
  | some v =>
    have g1 := pd_lt h1
    simp only [am_cb_i, am_cb_e, Option.toList_some, Option.toList_none, List.cons_append, List.nil_append, b13_7]
    rw [if_neg (nI_nm1 (by omega)), k12 (by decide) (by decide) ht h.cps cps_4 (by omega), pm_s, if_neg (by omega)]
    cases h2 : pd tx 0 9 (p + 1) with
    | none =>
      simp only [am_cb_i, am_cb_e, Option.toList_some, Option.toList_none, List.cons_append, List.nil_append, b13_22]
      rw [if_pos trivial, Nat.mul_zero, Nat.zero_add]
    | some v2 =>
      have g2 := pd_lt h2
      simp only [am_cb_i, am_cb_e, Option.toList_some, Option.toList_none, List.cons_append, List.nil_append, b13_22]
      rw [if_neg (nI_nm1 (by omega)), pk_mul, nI_add, cps_cps]
      show _ = some (Sum.inl (some (am_I (nI (10 * (10 * 0 + v) + v2)))), cps M (p + 1 + 1), am_Z w)
      rw [Nat.mul_zero, Nat.zero_add]
theorem l14 {x3 : Option am_V} (ht : txk tx) : ∀ k j p acc (M : am_M) (x3 : Option am_V), j + k = 8 → ctx tx M → M (8, 0, 0) 4 = nI p → p ≤ 500 + j → acc < 10 ^ j → am_rn (am_ev (d + 2)) 14 4 [some (am_P (8, 0, 0)), some (am_I (if j = 0 then -1 else nI acc)), some (am_I (nI j)), x3] [] M (am_Z w) = some (.inl (some (am_I (if j + (pm tx 1 8 k p acc).2.2 = 0 then -1 else nI (pm tx 1 8 k p acc).1))), cps M (pm tx 1 8 k p acc).2.1, am_Z w) := by
  intro k
  induction k with
  | zero =>
    intro j p acc M x3 hj h h4 hp ha
    rw [b14_4, if_neg (nI_nlt (by omega) (by omega)), show pm tx 1 8 0 p acc = (acc, p, 0) from rfl, cps_self h4, Nat.add_zero]
  | succ k ih =>
    intro j p acc M x3 hj h h4 hp ha
    have hpw : (10 : Nat) ^ j ≤ 10 ^ 7 := Nat.pow_le_pow_right (by decide) (by omega)
    rw [show (10 : Nat) ^ 7 = 10000000 from rfl] at hpw
    rw [b14_4, if_pos (nI_lt (by omega) (by omega)), k12 (by decide) (by decide) ht h h4 (by omega), pm_s]
    cases h1 : pd tx 1 8 p with
    | none =>
      simp only [am_cb_i, am_cb_e, Option.toList_some, Option.toList_none, List.cons_append, List.nil_append, b14_17]
      rw [if_pos trivial, cps_self h4, Nat.add_zero]
    | some v =>
      have g1 := pd_lt h1
      have e2 := ih (j + 1) (p + 1) (10 * acc + v) (cps M (p + 1)) (some (am_I (nI v))) (by omega) h.cps cps_4 (by omega) (by rw [Nat.pow_succ]; omega)
      rw [if_neg (show ¬ j + 1 = 0 by omega)] at e2
      rw [cps_cps] at e2
      simp only [am_cb_i, am_cb_e, Option.toList_some, Option.toList_none, List.cons_append, List.nil_append, b14_17]
      rw [if_neg (nI_nm1 (by omega))]
      have e3 : (if nI j = 0 then am_rn (am_ev (d + 2)) 14 39 [some (am_P (8, 0, 0)), some (am_I (if j = 0 then -1 else nI acc)), some (am_I (nI j)), some (am_I (nI v))] [am_I (nI v)] (cps M (p + 1)) (am_Z w) else am_rn (am_ev (d + 2)) 14 39 [some (am_P (8, 0, 0)), some (am_I (if j = 0 then -1 else nI acc)), some (am_I (nI j)), some (am_I (nI v))] [am_I (nI 10 * (if j = 0 then -1 else nI acc) + nI v)] (cps M (p + 1)) (am_Z w)) = am_rn (am_ev (d + 2)) 14 4 [some (am_P (8, 0, 0)), some (am_I (nI (10 * acc + v))), some (am_I (nI (j + 1))), some (am_I (nI v))] [] (cps M (p + 1)) (am_Z w) := by
        by_cases h0 : j = 0
        · subst h0
          rw [if_pos (show nI 0 = 0 from rfl), b14_39, nI_add, show 10 * acc + v = v by rw [Nat.pow_zero] at ha; omega]
        · rw [if_neg (nI_ne0 (by omega) (by omega)), if_neg h0, b14_39, nI_add, pk_mul, nI_add]
      rw [e3, e2, if_neg (by omega), if_neg (by omega)]
theorem k14 {p : Nat} (ht : txk tx) (h : ctx tx M) (h4 : M (8, 0, 0) 4 = nI p) (hp : p ≤ 500) : am_ev (d + 3) 14 [am_P (8, 0, 0)] M (am_Z w) = some (.inl (some (am_I (if (pm tx 1 8 8 p 0).2.2 = 0 then -1 else nI (pm tx 1 8 8 p 0).1))), cps M (pm tx 1 8 8 p 0).2.1, am_Z w) := by
  have e1 := l14 (d := d) (w := w) (x3 := none) ht 8 0 p 0 M none (by omega) h h4 (by omega) (by decide)
  rw [if_pos rfl, Nat.zero_add] at e1
  rw [e14, e1]
/-- the reference's text -/
def mtx (tx : List Int32) (M : am_M) : Prop := mlX (37, 0, 0) 10 tx M
def mps (M : am_M) (p : Nat) : am_M := am_set M (30, 0, 0) 11 (nI p)
theorem mtx.mps {p : Nat} (h : mtx tx M) : mtx tx (mps M p) := ⟨(as_j (by decide)).trans h.1, fun i c hc => (as_t (by decide)).trans (h.2 i c hc)⟩
theorem mps_11 {p : Nat} : mps M p (30, 0, 0) 11 = nI p := as_eq _ _ _ _
/-- the place and a number read -/
def mpn (M : am_M) (p s acc : Nat) : am_M := am_set (am_set M (30, 0, 0) 11 (nI p)) (38, 0, 0) s (nI acc)
theorem mpn_s {p q s acc acc' : Nat} : am_set (am_set (mpn M p s acc) (30, 0, 0) 11 (nI q)) (38, 0, 0) s (nI acc') = mpn M q s acc' := by
  funext l j
  unfold mpn am_set
  by_cases h1 : l = (38, 0, 0) ∧ j = s
  · rw [if_pos h1, if_pos h1]
  · rw [if_neg h1, if_neg h1]
    by_cases h2 : l = (30, 0, 0) ∧ j = 11
    · rw [if_pos h2, if_neg h1, if_pos h2]
    · rw [if_neg h2, if_neg h1, if_neg h2, if_neg h2]
theorem mpn_11 {p s acc : Nat} : mpn M p s acc (30, 0, 0) 11 = nI p := (as_t (by decide)).trans (as_eq _ _ _ _)
theorem mpn_38 {p s acc : Nat} : mpn M p s acc (38, 0, 0) s = nI acc := as_eq _ _ _ _
theorem mtx.mpn {p s acc : Nat} (h : mtx tx M) : mtx tx (mpn M p s acc) := ⟨((as_t (by decide)).trans (as_j (by decide))).trans h.1, fun i c hc => ((as_t (by decide)).trans (as_t (by decide))).trans (h.2 i c hc)⟩
theorem mpn_0 {p s : Nat} (h4 : M (30, 0, 0) 11 = nI p) : am_set M (38, 0, 0) s (nI 0) = mpn M p s 0 := by
  funext l j
  unfold mpn am_set
  by_cases h1 : l = (38, 0, 0) ∧ j = s
  · rw [if_pos h1, if_pos h1]
  · rw [if_neg h1, if_neg h1]
    by_cases h2 : l = (30, 0, 0) ∧ j = 11
    · rw [if_pos h2, h2.1, h2.2, h4]
    · rw [if_neg h2]
end Knu
