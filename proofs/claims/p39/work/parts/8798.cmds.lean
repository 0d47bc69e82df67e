/-! ONE COMMAND OF A TEXT: THE CLASS READS IT -/
/-- the place behind it, and the kind and the numbers, if it is one -/
abbrev Pc := Nat × Option (Nat × Nat × Nat × Nat)
def p_1 (tx : List Int32) (k p : Nat) : Pc := if (pm tx 0 9 2 p 0).2.2 = 0 then ((pm tx 0 9 2 p 0).2.1, none) else ((pm tx 0 9 2 p 0).2.1, some (k, (pm tx 0 9 2 p 0).1, 0, 0))
def p_2b (tx : List Int32) (k x p : Nat) : Pc := if (pm tx 0 9 1 p 0).2.2 = 0 then ((pm tx 0 9 1 p 0).2.1, none) else ((pm tx 0 9 1 p 0).2.1, some (k, x, (pm tx 0 9 1 p 0).1, 0))
def p_2a (tx : List Int32) (k x p : Nat) : Pc := if cn tx p = some 61 then p_2b tx k x (p + 1) else (p, none)
def p_2 (tx : List Int32) (k p : Nat) : Pc := if (pm tx 0 9 1 p 0).2.2 = 0 then ((pm tx 0 9 1 p 0).2.1, none) else p_2a tx k (pm tx 0 9 1 p 0).1 (pm tx 0 9 1 p 0).2.1
section Kcm
variable {d : Nat} {M M' : am_M} {w : am_W4} {tx : List Int32}
theorem k12p {p lo hi : Nat} (hlh : lo ≤ hi) (hhi : hi < 10) (ht : txk tx) (h : ctx tx M) (h4 : M (8, 0, 0) 4 = nI p) (hp : p ≤ 1000) : am_ev (d + 2) 12 [am_P (8, 0, 0), am_I (nI lo), am_I (nI hi)] M (am_Z w) = some (.inl (some (am_I (if (pm tx lo hi 1 p 0).2.2 = 0 then -1 else nI (pm tx lo hi 1 p 0).1))), cps M (pm tx lo hi 1 p 0).2.1, am_Z w) := by
  rw [k12 hlh hhi ht h h4 hp, pm_s]
  cases pd tx lo hi p with
  | none =>
    dsimp only
    rw [if_pos rfl, cps_self h4]
  | some v =>
    have e0 : 10 * 0 + v = v := by omega
    dsimp only
    rw [e0]
    rfl
theorem k11p {p x : Nat} (hx : x < 1000) (ht : txk tx) (h : ctx tx M) (h4 : M (8, 0, 0) 4 = nI p) (hp : p ≤ 1000) : am_ev (d + 2) 11 [am_P (8, 0, 0), am_I (nI x)] M (am_Z w) = some (.inl (some (am_I (nI (decide (cn tx p = some x)).toNat))), cps M (if cn tx p = some x then p + 1 else p), am_Z w) := by
  rw [k11 hx ht h h4 hp]
  by_cases hc : cn tx p = some x
  · rw [if_pos hc, if_pos hc, dV hc]
  · rw [if_neg hc, if_neg hc, dU hc, cps_self h4]
theorem pm_le {lo hi : Nat} : ∀ k p acc, p ≤ (pm tx lo hi k p acc).2.1 ∧ (pm tx lo hi k p acc).2.1 ≤ p + k := by
  intro k
  induction k with
  | zero => intro p acc; exact ⟨Nat.le_refl _, Nat.le_refl _⟩
  | succ k ih =>
    intro p acc
    rw [pm_s]
    cases pd tx lo hi p with
    | none => exact ⟨Nat.le_refl _, Nat.le_add_right _ _⟩
    | some v =>
      have := ih (p + 1) (10 * acc + v)
      dsimp only
      omega
theorem pm_v {lo hi : Nat} (hhi : hi < 10) : ∀ k p acc, (pm tx lo hi k p acc).1 < (acc + 1) * 10 ^ k := by
  intro k
  induction k with
  | zero => intro p acc; show acc < (acc + 1) * 1; omega
  | succ k ih =>
    intro p acc
    rw [pm_s]
    have hk : 0 < 10 ^ k := Nat.pow_pos (by decide)
    cases hv : pd tx lo hi p with
    | none =>
      show acc < (acc + 1) * 10 ^ (k + 1)
      have : (acc + 1) * 1 ≤ (acc + 1) * 10 ^ (k + 1) := Nat.mul_le_mul_left _ (Nat.pow_pos (by decide))
      omega
    | some v =>
      have g := pd_lt hv
      have e1 := ih (p + 1) (10 * acc + v)
      dsimp only
      have e2 : (10 * acc + v + 1) * 10 ^ k ≤ (acc + 1) * 10 ^ (k + 1) := by
        rw [Nat.pow_succ, Nat.mul_comm (10 ^ k) 10, ← Nat.mul_assoc]
        exact Nat.mul_le_mul_right _ (by omega)
      omega
/-- a command read into the record l -/
def cpO (tx : List Int32) (l : am_L) (M : am_M) (w : am_W4) (r : Option am_R) (c : Pc) : Prop := ∃ M', r = some (.inl (some (am_I (nI c.2.isSome.toNat))), M', am_Z w) ∧ M' (8, 0, 0) 4 = nI c.1 ∧ (∀ k x y z, c.2 = some (k, x, y, z) → M' l 0 = nI k ∧ M' l 1 = nI x ∧ M' l 2 = nI y ∧ M' l 3 = nI z) ∧ ∀ l' j, l' ≠ l → ¬ (l' = (8, 0, 0) ∧ j = 4) → M' l' j = M l' j
def rec4 (M : am_M) (l : am_L) (k x y z : Int32) : am_M := am_set (am_set (am_set (am_set M l 0 k) l 1 x) l 2 y) l 3 z
theorem rec4_ne {l l' : am_L} {k x y z : Int32} {j : Nat} (h : l' ≠ l) : rec4 M l k x y z l' j = M l' j := by
  unfold rec4
  rw [as_ne (fun q => h q.1), as_ne (fun q => h q.1), as_ne (fun q => h q.1), as_ne (fun q => h q.1)]
theorem rec4_at {l : am_L} {k x y z : Int32} : rec4 M l k x y z l 0 = k ∧ rec4 M l k x y z l 1 = x ∧ rec4 M l k x y z l 2 = y ∧ rec4 M l k x y z l 3 = z := by
  unfold rec4
  refine ⟨?_, ?_, ?_, as_eq _ _ _ _⟩
  · rw [as_j (by decide), as_j (by decide), as_j (by decide), as_eq]
  · rw [as_j (by decide), as_j (by decide), as_eq]
  · rw [as_j (by decide), as_eq]
theorem cpO.no {l : am_L} {p : Nat} : cpO tx l M w (some (.inl (some (am_I (nI 0))), cps M p, am_Z w)) (p, none) := ⟨_, rfl, cps_4, fun k x y z q => absurd q (by simp), fun l' j h1 h2 => as_ne h2⟩
theorem cpO.rec {l : am_L} {p : Nat} {k x y z : Int32} (hl : l ≠ (8, 0, 0)) : cpO tx l M w (some (.inl (some (am_I (nI 0))), rec4 (cps M p) l k x y z, am_Z w)) (p, none) := ⟨_, rfl, (rec4_ne (fun q => hl q.symm)).trans cps_4, fun k x y z q => absurd q (by simp), fun l' j h1 h2 => (rec4_ne h1).trans (as_ne h2)⟩
theorem cpO.yes {l : am_L} {p k x y z : Nat} (hl : l ≠ (8, 0, 0)) : cpO tx l M w (some (.inl (some (am_I (nI 1))), rec4 (cps M p) l (nI k) (nI x) (nI y) (nI z), am_Z w)) (p, some (k, x, y, z)) := by
  refine ⟨_, rfl, (rec4_ne (fun q => hl q.symm)).trans cps_4, fun k' x' y' z' q => ?_, fun l' j h1 h2 => (rec4_ne h1).trans (as_ne h2)⟩
  have e1 := Option.some.inj q
  obtain ⟨rfl, e2⟩ := Prod.mk.inj e1
  obtain ⟨rfl, e3⟩ := Prod.mk.inj e2
  obtain ⟨rfl, rfl⟩ := Prod.mk.inj e3
  exact rec4_at
theorem k7 {i p k : Nat} (hi : i < 20) (ht : txk tx) (h : ctx tx M) (h4 : M (8, 0, 0) 4 = nI p) (hp : p ≤ 60) : cpO tx (11, 0, i) M w (am_ev (d + 4) 7 [am_P (8, 0, 0), am_P (11, 0, i), am_I (nI k)] M (am_Z w)) (p_1 tx k (p + 1)) := by
  have hv := pm_v (tx := tx) (lo := 0) (hi := 9) (by decide) 2 (p + 1) 0
  have hv' : (pm tx 0 9 2 (p + 1) 0).1 < 100 := by simpa using hv
  rw [e7 (ck11 hi), h4, nI_add, show am_set M (8, 0, 0) 4 (nI (p + 1)) = cps M (p + 1) from rfl, k13 ht h.cps cps_4 (by omega), cps_cps]
  simp only [am_cb_i, am_cb_e, Option.toList_some, Option.toList_none, List.cons_append, List.nil_append]
  rw [b7_14 (ck11 hi), e1 (ck11 hi)]
  simp only [am_cb_i, am_cb_e, Option.toList_some, Option.toList_none, List.cons_append, List.nil_append]
  rw [b7_23 (ck11 hi)]
  unfold p_1
  by_cases h0 : (pm tx 0 9 2 (p + 1) 0).2.2 = 0
  · rw [if_pos h0, if_pos h0, if_pos rfl]
    exact cpO.rec (pl_t (by decide))
  · rw [if_neg h0, if_neg h0, if_neg (nI_nm1 (by omega))]
    exact cpO.yes (pl_t (by decide))
theorem k9 {i p k : Nat} (hi : i < 20) (ht : txk tx) (h : ctx tx M) (h4 : M (8, 0, 0) 4 = nI p) (hp : p ≤ 60) : cpO tx (11, 0, i) M w (am_ev (d + 4) 9 [am_P (8, 0, 0), am_P (11, 0, i), am_I (nI k)] M (am_Z w)) (p_2 tx k (p + 1)) := by
  have hv := pm_v (tx := tx) (lo := 0) (hi := 9) (by decide) 1 (p + 1) 0
  have hv' : (pm tx 0 9 1 (p + 1) 0).1 < 10 := by simpa using hv
  have hq := pm_le (tx := tx) (lo := 0) (hi := 9) 1 (p + 1) 0
  rw [e9 (ck11 hi), h4, nI_add, show am_set M (8, 0, 0) 4 (nI (p + 1)) = cps M (p + 1) from rfl, k12p (by decide) (by decide) ht h.cps cps_4 (by omega), cps_cps]
  simp only [am_cb_i, am_cb_e, Option.toList_some, Option.toList_none, List.cons_append, List.nil_append]
  rw [b9_17 (ck11 hi)]
  unfold p_2
  by_cases h0 : (pm tx 0 9 1 (p + 1) 0).2.2 = 0
  · rw [if_pos h0, if_pos h0, if_pos rfl]
    exact cpO.no
  · rw [if_neg h0, if_neg h0, if_neg (nI_nm1 (by omega)), k11p (by decide) ht h.cps cps_4 (by omega), cps_cps]
    generalize (pm tx 0 9 1 (p + 1) 0).1 = x at hv' ⊢
    generalize (pm tx 0 9 1 (p + 1) 0).2.1 = q at hq ⊢
    have hv2 := pm_v (tx := tx) (lo := 0) (hi := 9) (by decide) 1 (q + 1) 0
    have hv2' : (pm tx 0 9 1 (q + 1) 0).1 < 10 := by simpa using hv2
    simp only [am_cb_i, am_cb_e, Option.toList_some, Option.toList_none, List.cons_append, List.nil_append]
    rw [b9_29 (ck11 hi)]
    unfold p_2a
    by_cases hc : cn tx q = some 61
    · rw [if_neg (dT hc), if_pos hc, if_pos hc, k12p (by decide) (by decide) ht h.cps cps_4 (by omega), cps_cps]
      simp only [am_cb_i, am_cb_e, Option.toList_some, Option.toList_none, List.cons_append, List.nil_append]
      rw [b9_41 (ck11 hi), e1 (ck11 hi)]
      simp only [am_cb_i, am_cb_e, Option.toList_some, Option.toList_none, List.cons_append, List.nil_append]
      rw [b9_52 (ck11 hi)]
      unfold p_2b
      by_cases h02 : (pm tx 0 9 1 (q + 1) 0).2.2 = 0
      · rw [if_pos h02, if_pos h02, if_pos rfl]
        exact cpO.rec (pl_t (by decide))
      · rw [if_neg h02, if_neg h02, if_neg (nI_nm1 (by omega))]
        exact cpO.yes (pl_t (by decide))
    · rw [if_pos (dF hc), if_neg hc, if_neg hc]
      exact cpO.no
end Kcm
