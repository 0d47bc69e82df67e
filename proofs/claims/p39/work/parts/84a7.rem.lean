/-! A NUMBER MODULO ANOTHER -/
theorem rem_ii {x : Int32} {n : Nat} (h0 : 0 < n) (hn : n < 1000) : (x - x / nI n * nI n).toInt = x.toInt.tmod n := by
  have e : (nI n).toInt = (n : Int) := nI_toInt (by omega)
  rw [Int32.toInt_sub, Int32.toInt_mul, Int32.toInt_div, e]
  have lo := Int32.le_toInt x
  have hi := Int32.toInt_lt x
  have h2 : (x.toInt.tdiv n).bmod (2 ^ 32) = x.toInt.tdiv n := by
    have ha : (x.toInt.tdiv n).natAbs ≤ x.toInt.natAbs := by
      rw [Int.natAbs_tdiv]
      exact Nat.div_le_self _ _
    by_cases hm : x.toInt.tdiv n = 2147483648
    · have h0 : 0 ≤ x.toInt.tdiv n := by omega
      have hx : ¬ 0 ≤ x.toInt := by omega
      have := Int.neg_tdiv (a := x.toInt) (b := (n : Int))
      have h5 := Int.tdiv_nonneg (a := -x.toInt) (b := (n : Int)) (by omega) (by omega)
      omega
    · exact Int.bmod_eq_of_le (by omega) (by omega)
  have h3 : x.toInt - x.toInt.tdiv n * n = x.toInt.tmod n := by
    rw [Int.tmod_def]; rw [Int.mul_comm]
  have h4 : -(n : Int) < x.toInt.tmod n ∧ x.toInt.tmod n < n := by
    refine ⟨?_, Int.tmod_lt_of_pos _ (by omega)⟩
    have := Int.lt_tmod_of_pos x.toInt (b := (n : Int)) (by omega)
    omega
  rw [Int.sub_bmod_bmod, h2, h3]
  exact Int.bmod_eq_of_le (by omega) (by omega)
theorem rem_b {x : Int32} {n : Nat} (h0 : 0 < n) (hn : n < 1000) : ∃ k, k < n ∧ (if x - x / nI n * nI n < 0 then x - x / nI n * nI n + nI n else x - x / nI n * nI n) = nI k := by
  have e := rem_ii (x := x) h0 hn
  have h4 : -(n : Int) < x.toInt.tmod n ∧ x.toInt.tmod n < n := by
    refine ⟨?_, Int.tmod_lt_of_pos _ (by omega)⟩
    have := Int.lt_tmod_of_pos x.toInt (b := (n : Int)) (by omega)
    omega
  generalize x - x / nI n * nI n = r at e ⊢
  by_cases hr : r < 0
  · rw [if_pos hr]
    have hr2 : r.toInt < 0 := by
      have := Int32.lt_iff_toInt_lt.mp hr
      simpa using this
    have h5 : (r + nI n).toInt = r.toInt + n := by
      rw [Int32.toInt_add, nI_toInt (by omega)]
      exact Int.bmod_eq_of_le (by omega) (by omega)
    refine ⟨(r.toInt + n).toNat, by omega, ?_⟩
    apply Int32.toInt_inj.mp
    rw [h5, nI_toInt (by omega)]
    omega
  · rw [if_neg hr]
    have hr2 : 0 ≤ r.toInt := by
      have := Int32.not_lt.mp hr
      simpa using Int32.le_iff_toInt_le.mp this
    refine ⟨r.toInt.toNat, by omega, ?_⟩
    apply Int32.toInt_inj.mp
    rw [nI_toInt (by omega)]
    omega
theorem mo_lt {x : Int32} {n : Nat} (h0 : 0 < n) (hn : n < 1000) : (am_mo x (nI n)).toNatClampNeg < n := by
  obtain ⟨k, hk, e⟩ := rem_b (x := x) h0 hn
  unfold am_mo
  rw [e, nI_clamp (by omega)]
  exact hk
