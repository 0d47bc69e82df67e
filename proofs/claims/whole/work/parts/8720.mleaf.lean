/-! THE REFERENCE'S SMALL METHODS. The row 'now' holds numbers a j; am_pA M a is the memory M with a in that row -/
def nu (a : Nat → Nat) (i v : Nat) : Nat → Nat := fun j => if j = i then v else a j
theorem nu_eq (a : Nat → Nat) (i v : Nat) : nu a i v i = v := if_pos rfl
theorem nu_ne {a : Nat → Nat} {i v j : Nat} (h : j ≠ i) : nu a i v j = a j := if_neg h
def am_pA (M : am_M) (a : Nat → Nat) : am_M := fun l j => if l = (31, 0, 0) then nI (a j) else M l j
theorem am_pA_now (M : am_M) (a : Nat → Nat) (j : Nat) : am_pA M a (31, 0, 0) j = nI (a j) := if_pos rfl
theorem am_pA_ne {M : am_M} {a : Nat → Nat} {l : am_L} {j : Nat} (h : l ≠ (31, 0, 0)) : am_pA M a l j = M l j := if_neg h
theorem am_pA_set (M : am_M) (a : Nat → Nat) (i v : Nat) : am_set (am_pA M a) (31, 0, 0) i (nI v) = am_pA M (nu a i v) := by
  funext l j
  unfold am_set am_pA nu
  by_cases h : l = (31, 0, 0)
  · subst h
    by_cases hj : j = i
    · subst hj; simp
    · simp [hj]
  · simp [h]
theorem am_pA_sne {M : am_M} {a : Nat → Nat} {l : am_L} {i : Nat} {x : Int32} (h : l ≠ (31, 0, 0)) : am_set (am_pA M a) l i x = am_pA (am_set M l i x) a := by
  funext l' j
  unfold am_set am_pA
  by_cases h1 : l' = (31, 0, 0)
  · subst h1
    rw [if_neg (fun e => h e.1.symm), if_pos rfl, if_pos rfl]
  · rw [if_neg h1]
    by_cases h2 : l' = l ∧ j = i
    · rw [if_pos h2, if_neg h1]; exact (if_pos h2).symm
    · rw [if_neg h2, if_neg h1]; exact (if_neg h2).symm
theorem am_pA_self {M : am_M} {a : Nat → Nat} (h : ∀ j, M (31, 0, 0) j = nI (a j)) : am_pA M a = M := by
  funext l j
  unfold am_pA
  by_cases h1 : l = (31, 0, 0)
  · subst h1; rw [if_pos rfl, h j]
  · rw [if_neg h1]
theorem am_pA_pA (M : am_M) (a b : Nat → Nat) : am_pA (am_pA M a) b = am_pA M b := by
  funext l j
  unfold am_pA
  by_cases h1 : l = (31, 0, 0)
  · subst h1; rw [if_pos rfl, if_pos rfl]
  · rw [if_neg h1, if_neg h1, if_neg h1]
theorem am_cb_i (v : Option am_V) (M : am_M) (X : am_X) (K : Option am_V → am_M → am_X → Option am_R) : am_cb (some (.inl v, M, X)) K = K v M X := rfl
theorem am_cb_e (E : Nat) (M : am_M) (X : am_X) (K : Option am_V → am_M → am_X → Option am_R) : am_cb (some (.inr E, M, X)) K = some (.inr E, M, X) := rfl
theorem am_inT {a n : Nat} (h : a < 2147483648) (hn : a < n) : (am_in (nI a) n) = True := by
  refine eq_true ?_
  rintro (h1 | h1)
  · exact nI_pos h h1
  · rw [nI_clamp h] at h1; omega
theorem nI_ltJ {a b : Nat} (ha : a < 2147483648) (hb : b < 2147483648) : (nI a < nI b) = (a < b) := propext (nI_ltI ha hb)
theorem nI_eqI {a b : Nat} (ha : a < 2147483648) (hb : b < 2147483648) : (nI a = nI b) = (a = b) := propext (nI_eq ha hb)
theorem nI_z {a : Nat} (ha : a < 2147483648) : (nI a = 0) = (a = 0) := propext (nI_eq ha (b := 0) (by decide))
theorem nI_n0 {a : Nat} (ha : a < 2147483648) : (nI a < 0) = False := eq_false (nI_pos ha)
theorem nI_bz (b : Bool) : (nI b.toNat = 0) = (b = false) := by cases b <;> simp [nI]
theorem am_pcb (b : Bool) : (am_pc 1 (nI b.toNat) = true) = True := by cases b <;> exact eq_true rfl
theorem am_pc01 {n : Nat} (h : n < 2) : am_pc 1 (nI n) = true := by
  have : n = 0 ∨ n = 1 := by omega
  rcases this with rfl | rfl <;> rfl
/-- between two numbers -/
abbrev am_bt (x : Int32) (lo hi : Nat) : Prop := ¬ x < nI lo ∧ ¬ nI hi < x
theorem k116 {d lo hi : Nat} {x : Int32} {M : am_M} {w : am_W4} : am_ev (d + 1) 116 [am_I x, am_I (nI lo), am_I (nI hi)] M (am_Z w) = some (.inl (some (am_I (nI (decide (am_bt x lo hi)).toNat))), M, am_Z w) := by
  rw [e116]
  by_cases h1 : x < nI lo
  · rw [if_pos h1, decide_eq_false (fun q => q.1 h1)]; rfl
  · rw [if_neg h1]
    by_cases h2 : nI hi < x
    · rw [if_pos h2, decide_eq_false (fun q => q.2 h2)]; rfl
    · rw [if_neg h2, decide_eq_true ⟨h1, h2⟩]; rfl
theorem am_in_iff {x : Int32} {n : Nat} : am_in x n ↔ ¬ x < 0 ∧ x.toNatClampNeg < n := by
  constructor
  · intro h; exact ⟨fun q => h (Or.inl q), am_in_lt' h⟩
  · rintro ⟨h1, h2⟩ (q | q)
    · exact h1 q
    · omega
/-- a place below n, as the reference asks it: from 0 to n - k -/
theorem am_ix_k {x : Int32} {n k : Nat} (hn : n < 1000) (hk : k < 10) (hk0 : 0 < k) : (¬ x < nI 0 ∧ ¬ nI n - nI k < x) ↔ am_in x (n + 1 - k) := by
  have h0 : nI 0 = 0 := rfl
  rw [h0, am_in_iff]
  constructor
  · rintro ⟨h1, h2⟩
    obtain ⟨j, hj, rfl⟩ := nI_of h1
    refine ⟨h1, ?_⟩
    rw [nI_clamp hj]
    rcases Nat.lt_or_ge n k with h | h
    · exact absurd (by
        have e := pk_sub_toInt (a := n) (b := k) (by omega) (by omega)
        apply Int32.lt_iff_toInt_lt.mpr
        rw [e, nI_toInt hj]; omega) h2
    · rw [pk_sub h, nI_ltI (by omega) hj] at h2
      omega
  · rintro ⟨h1, h2⟩
    obtain ⟨j, hj, rfl⟩ := nI_of h1
    refine ⟨h1, ?_⟩
    rw [nI_clamp hj] at h2
    rcases Nat.lt_or_ge n k with h | h
    · omega
    · rw [pk_sub h, nI_ltI (by omega) hj]
      omega
theorem k116m {d n k : Nat} {x : Int32} {M : am_M} {w : am_W4} (hn : n < 1000) (hk : k < 10) (hk0 : 0 < k) : am_ev (d + 1) 116 [am_I x, am_I (nI 0), am_I (nI n - nI k)] M (am_Z w) = some (.inl (some (am_I (nI (decide (am_in x (n + 1 - k))).toNat))), M, am_Z w) := by
  rw [e116]
  have h := am_ix_k (x := x) hn hk hk0
  by_cases h1 : x < nI 0
  · rw [if_pos h1, decide_eq_false (fun q => (h.mpr q).1 h1)]; rfl
  · rw [if_neg h1]
    by_cases h2 : nI n - nI k < x
    · rw [if_pos h2, decide_eq_false (fun q => (h.mpr q).2 h2)]; rfl
    · rw [if_neg h2, decide_eq_true (h.mp ⟨h1, h2⟩)]; rfl
section Kml
variable {d : Nat} {M : am_M} {a : Nat → Nat} {w : am_W4}
theorem k125 {x : Int32} (hc : a 1 < 1000) : am_ev (d + 2) 125 [am_P (30, 0, 0), am_I x] (am_pA M a) (am_Z w) = some (.inl (some (am_I (nI (decide (am_in x (a 1))).toNat))), am_pA M a, am_Z w) := by
  rw [e125, am_pA_now, k116m hc (by decide) (by decide)]
  simp (disch := omega) only [am_cb_i, am_cb_e, Option.toList_some, Option.toList_none, List.cons_append, List.nil_append, b125_13, am_pcb, if_true]
  rfl
theorem k126 {x : Int32} (hc : a 1 < 1000) : am_ev (d + 2) 126 [am_P (30, 0, 0), am_I x] (am_pA M a) (am_Z w) = some (.inl (some (am_I (nI (decide (am_in x (a 1 - 1))).toNat))), am_pA M a, am_Z w) := by
  rw [e126, am_pA_now, k116m hc (by decide) (by decide)]
  simp (disch := omega) only [am_cb_i, am_cb_e, Option.toList_some, Option.toList_none, List.cons_append, List.nil_append, b126_13, am_pcb, if_true]
  rfl
theorem k127 {x : Int32} (hc : a 2 < 1000) : am_ev (d + 2) 127 [am_P (30, 0, 0), am_I x] (am_pA M a) (am_Z w) = some (.inl (some (am_I (nI (decide (am_in x (a 2))).toNat))), am_pA M a, am_Z w) := by
  rw [e127, am_pA_now, k116m hc (by decide) (by decide)]
  simp (disch := omega) only [am_cb_i, am_cb_e, Option.toList_some, Option.toList_none, List.cons_append, List.nil_append, b127_13, am_pcb, if_true]
  rfl
theorem k128 {c f : Nat} (hc : c < 6) (hf : f < 6) : am_ev (d + 1) 128 [am_P (30, 0, 0), am_I (nI c), am_I (nI f)] (am_pA M a) (am_Z w) = some (.inl (some (am_I (nI (a (12 + 6 * c + f))))), am_pA M a, am_Z w) := by
  rw [e128]
  simp (disch := omega) only [nI_add, pk_mul, am_inT, nI_clamp, if_true, if_false, ite_true, ite_false, am_pA_now, am_pA_set]
theorem k129 {m f : Nat} (hm : m < 16) (hf : f < 19) : am_ev (d + 1) 129 [am_P (30, 0, 0), am_I (nI m), am_I (nI f)] (am_pA M a) (am_Z w) = some (.inl (some (am_I (nI (a (60 + 19 * m + f))))), am_pA M a, am_Z w) := by
  rw [e129]
  simp (disch := omega) only [nI_add, pk_mul, am_inT, nI_clamp, if_true, if_false, ite_true, ite_false, am_pA_now, am_pA_set]
theorem k130 {m f v : Nat} (hm : m < 16) (hf : f < 19) : am_ev (d + 1) 130 [am_P (30, 0, 0), am_I (nI m), am_I (nI f), am_I (nI v)] (am_pA M a) (am_Z w) = some (.inl none, am_pA M (nu a (60 + 19 * m + f) v), am_Z w) := by
  rw [e130]
  simp (disch := omega) only [nI_add, pk_mul, am_inT, nI_clamp, if_true, if_false, ite_true, ite_false, am_pA_now, am_pA_set]
theorem k131 {r : Nat} (hr : r < 6) : am_ev (d + 1) 131 [am_P (30, 0, 0), am_I (nI r)] (am_pA M a) (am_Z w) = some (.inl (some (am_I (nI (a (48 + 2 * r + 1))))), am_pA M a, am_Z w) := by
  rw [e131]
  simp (disch := omega) only [nI_add, pk_mul, am_inT, nI_clamp, if_true, if_false, ite_true, ite_false, am_pA_now, am_pA_set]
def ml_waits (a : Nat → Nat) (m c : Nat) : Bool := decide (a (60 + 19 * m + 6) = 0 ∧ a (60 + 19 * m + 2) = c)
theorem k145 {m c : Nat} (hm : m < 16) (hc : c < 1000) (h6 : a (60 + 19 * m + 6) < 1000) (h2 : a (60 + 19 * m + 2) < 1000) : am_ev (d + 2) 145 [am_P (30, 0, 0), am_I (nI m), am_I (nI c)] (am_pA M a) (am_Z w) = some (.inl (some (am_I (nI (ml_waits a m c).toNat))), am_pA M a, am_Z w) := by
  rw [e145, k129 hm (by decide)]
  simp (disch := omega) only [am_cb_i, am_cb_e, Option.toList_some, Option.toList_none, List.cons_append, List.nil_append, b145_7, nI_z]
  unfold ml_waits
  by_cases h : a (60 + 19 * m + 6) = 0
  · rw [if_pos h, k129 hm (by decide)]
    simp (disch := omega) only [am_cb_i, am_cb_e, Option.toList_some, Option.toList_none, List.cons_append, List.nil_append, b145_16, nI_eqI]
    by_cases h3 : a (60 + 19 * m + 2) = c
    · rw [if_pos h3, decide_eq_true ⟨h, h3⟩]; rfl
    · rw [if_neg h3, decide_eq_false (fun q => h3 q.2)]; rfl
  · rw [if_neg h, decide_eq_false (fun q => h q.1)]; rfl
/-- the next convent on the way -/
def ml_next (a : Nat → Nat) (m : Nat) : Nat := if a (60 + 19 * m + 2) < a (60 + 19 * m + 1) then a (60 + 19 * m + 2) + 1 else a (60 + 19 * m + 2) - 1
theorem k150 {m : Nat} (hm : m < 16) (h1 : a (60 + 19 * m + 1) < 1000) (h2 : a (60 + 19 * m + 2) < 1000) (hne : a (60 + 19 * m + 1) ≠ a (60 + 19 * m + 2)) : am_ev (d + 2) 150 [am_P (30, 0, 0), am_I (nI m)] (am_pA M a) (am_Z w) = some (.inl (some (am_I (nI (ml_next a m)))), am_pA M a, am_Z w) := by
  rw [e150, k129 hm (by decide)]
  simp (disch := omega) only [am_cb_i, am_cb_e, Option.toList_some, Option.toList_none, List.cons_append, List.nil_append, b150_6, k129 hm (show 1 < 19 by decide), b150_12, k129 hm (show 2 < 19 by decide), b150_18, nI_ltJ]
  unfold ml_next
  by_cases h : a (60 + 19 * m + 2) < a (60 + 19 * m + 1)
  · rw [if_pos h, if_pos h, nI_add]
  · rw [if_neg h, if_neg h, sb_m1 (by omega)]
theorem k153 {r v : Nat} (hr : r < 1000) (hv : v < 1000) : am_ev (d + 1) 153 [am_I (nI r), am_I (nI v)] M (am_Z w) = some (.inl (some (am_I (nI ((3 * v + r + 1) % 10)))), M, am_Z w) := by
  rw [e153]
  simp (disch := omega) only [nI_add, pk_mul, pk_rem]
end Kml
