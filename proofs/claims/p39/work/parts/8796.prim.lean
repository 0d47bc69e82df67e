/-! READING A TEXT: A SIGN, A FIGURE, A NUMBER -/
/-- the letter at p -/
def cn (tx : List Int32) (p : Nat) : Option Nat := (tx[p]?).map cN
/-- a figure from lo to hi at p -/
def pd (tx : List Int32) (lo hi p : Nat) : Option Nat := match cn tx p with
  | some n => if 48 + lo ≤ n ∧ n ≤ 48 + hi then some (n - 48) else none
  | none => none
/-- up to so many figures: the number, the place behind, how many -/
def pm (tx : List Int32) (lo hi : Nat) : Nat → Nat → Nat → Nat × Nat × Nat
  | 0, p, acc => (acc, p, 0)
  | k + 1, p, acc => match pd tx lo hi p with
    | some v => ((pm tx lo hi k (p + 1) (10 * acc + v)).1, (pm tx lo hi k (p + 1) (10 * acc + v)).2.1, (pm tx lo hi k (p + 1) (10 * acc + v)).2.2 + 1)
    | none => (acc, p, 0)
/-- a text of letters -/
def txk (tx : List Int32) : Prop := tx.length ≤ 60 ∧ ∀ c, c ∈ tx → am_pc 2 c = true
theorem txk.c {tx : List Int32} {p : Nat} (h : txk tx) (hp : p < tx.length) : ∃ n, n ≤ 65535 ∧ tx[p]? = some (nI n) ∧ cn tx p = some n := by
  have e1 := List.getElem?_eq_getElem hp
  have h2 := h.2 _ (List.getElem_mem hp)
  have h3 : (0 : Int32) ≤ tx[p] ∧ tx[p] ≤ 65535 := of_decide_eq_true h2
  obtain ⟨n, hn, hx⟩ := nI_of2 (x := tx[p]) (M := 65535) (n := 65535) rfl (fun q => by
    have g1 := Int32.le_iff_toInt_le.mp h3.1
    have g2 := Int32.lt_iff_toInt_lt.mp q
    omega) h3.2
  refine ⟨n, hn, by rw [e1, hx], ?_⟩
  unfold cn
  rw [e1, hx]
  show some (cN (nI n)) = some n
  rw [cN_nI (by omega)]
theorem cn_out {tx : List Int32} {p : Nat} (hp : tx.length ≤ p) : cn tx p = none := by
  unfold cn
  rw [List.getElem?_eq_none hp]
  rfl
theorem pd_lt {tx : List Int32} {lo hi p v : Nat} (h : pd tx lo hi p = some v) : lo ≤ v ∧ v ≤ hi ∧ cn tx p = some (v + 48) := by
  unfold pd at h
  cases hc : cn tx p with
  | none => rw [hc] at h; exact absurd h (by simp)
  | some n =>
    rw [hc] at h
    dsimp only at h
    by_cases hb : 48 + lo ≤ n ∧ n ≤ 48 + hi
    · rw [if_pos hb] at h
      have : n - 48 = v := Option.some.inj h
      exact ⟨by omega, by omega, by rw [show v + 48 = n by omega]⟩
    · rw [if_neg hb] at h
      exact absurd h (by simp)
theorem cn_lt {tx : List Int32} {p n : Nat} (h : cn tx p = some n) : p < tx.length := by
  rcases Nat.lt_or_ge p tx.length with z | z
  · exact z
  · rw [cn_out z] at h
    exact absurd h (by simp)
section Kpr
variable {d : Nat} {M M' : am_M} {w : am_W4} {tx : List Int32}
/-- the class's text -/
def ctx (tx : List Int32) (M : am_M) : Prop := M (8, 0, 0) 1 = nI tx.length ∧ ∀ i c, tx[i]? = some c → M (9, 0, 0) i = c
def cps (M : am_M) (p : Nat) : am_M := am_set M (8, 0, 0) 4 (nI p)
theorem ctx.cps {p : Nat} (h : ctx tx M) : ctx tx (cps M p) := ⟨(as_j (by decide)).trans h.1, fun i c hc => (as_t (by decide)).trans (h.2 i c hc)⟩
theorem cps_4 {p : Nat} : cps M p (8, 0, 0) 4 = nI p := as_eq _ _ _ _
theorem cps_cps {p q : Nat} : cps (cps M p) q = cps M q := by
  funext l j
  unfold cps am_set
  by_cases h : l = (8, 0, 0) ∧ j = 4
  · rw [if_pos h, if_pos h]
  · rw [if_neg h, if_neg h, if_neg h]
theorem k10 {p : Nat} (ht : txk tx) (h : ctx tx M) (h4 : M (8, 0, 0) 4 = nI p) (hp : p ≤ 1000) : am_ev (d + 1) 10 [am_P (8, 0, 0)] M (am_Z w) = some (.inl (some (am_I (match cn tx p with | some n => nI n | none => -1))), M, am_Z w) := by
  have hl := ht.1
  rw [e10, h4, h.1]
  by_cases hlt : p < tx.length
  · obtain ⟨n, g1, g2, g3⟩ := ht.c hlt
    rw [if_pos (nI_lt hlt (by omega)), if_pos (by rw [am_inT (by omega) (by omega)]; trivial), nI_clamp (by omega), h.2 p _ g2, g3]
  · rw [if_neg (nI_nlt (by omega) (by omega)), cn_out (by omega)]
theorem k11 {p x : Nat} (hx : x < 1000) (ht : txk tx) (h : ctx tx M) (h4 : M (8, 0, 0) 4 = nI p) (hp : p ≤ 1000) : am_ev (d + 2) 11 [am_P (8, 0, 0), am_I (nI x)] M (am_Z w) = if cn tx p = some x then some (.inl (some (am_I (nI 1))), cps M (p + 1), am_Z w) else some (.inl (some (am_I (nI 0))), M, am_Z w) := by
  rw [e11, k10 ht h h4 hp]
  simp only [am_cb_i, am_cb_e, Option.toList_some, Option.toList_none, List.cons_append, List.nil_append, b11_4]
  cases hc : cn tx p with
  | none => rw [if_neg (fun q => nI_nm1 (v := x) (by omega) q.symm), if_neg (by simp)]
  | some n =>
    have hn : n < 2147483648 := by
      obtain ⟨m, g1, g2, g3⟩ := ht.c (cn_lt hc)
      rw [hc] at g3
      have : n = m := Option.some.inj g3
      omega
    dsimp only
    by_cases hnx : n = x
    · rw [if_pos (by rw [hnx]), if_pos (by rw [hnx]), h4, nI_add]
      rfl
    · rw [if_neg (by rw [nI_eqI hn (by omega)]; exact hnx), if_neg (fun q => hnx (Option.some.inj q))]
theorem k12 {p lo hi : Nat} (hlh : lo ≤ hi) (hhi : hi < 10) (ht : txk tx) (h : ctx tx M) (h4 : M (8, 0, 0) 4 = nI p) (hp : p ≤ 1000) : am_ev (d + 2) 12 [am_P (8, 0, 0), am_I (nI lo), am_I (nI hi)] M (am_Z w) = match pd tx lo hi p with | some v => some (.inl (some (am_I (nI v))), cps M (p + 1), am_Z w) | none => some (.inl (some (am_I (-1))), M, am_Z w) := by
  rw [e12, k10 ht h h4 hp]
  simp only [am_cb_i, am_cb_e, Option.toList_some, Option.toList_none, List.cons_append, List.nil_append, b12_4]
  unfold pd
  have sm : ∀ x : Int32, x.toInt < 0 → x < nI lo := fun x hx => Int32.lt_iff_toInt_lt.mpr (by rw [nI_toInt (by omega)]; omega)
  cases hc : cn tx p with
  | none =>
    dsimp only
    rw [if_pos (sm _ (by decide))]
  | some n =>
    have hn : n ≤ 65535 := by
      obtain ⟨m, g1, g2, g3⟩ := ht.c (cn_lt hc)
      rw [hc] at g3
      have : n = m := Option.some.inj g3
      omega
    dsimp only
    by_cases h48 : n < 48
    · rw [if_neg (fun q : 48 + lo ≤ n ∧ n ≤ 48 + hi => by omega), if_pos (sm _ (by
        rw [pk_sub_toInt (by omega) (by omega)]
        omega))]
    · rw [pk_sub (by omega)]
      by_cases hlo : n - 48 < lo
      · rw [if_pos (nI_lt hlo (by omega)), if_neg (fun q : 48 + lo ≤ n ∧ n ≤ 48 + hi => by omega)]
      · rw [if_neg (nI_nlt (by omega) (by omega))]
        by_cases hhi' : hi < n - 48
        · rw [if_pos (nI_lt hhi' (by omega)), if_neg (fun q : 48 + lo ≤ n ∧ n ≤ 48 + hi => by omega)]
        · rw [if_neg (nI_nlt (by omega) (by omega)), if_pos (show 48 + lo ≤ n ∧ n ≤ 48 + hi by omega), h4, nI_add]
          rfl
end Kpr
