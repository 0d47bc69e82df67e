/-! A NETWORK MADE -/
section AmMo
variable {d : Nat} {M : am_M} {T : am_T} {n k c p q : Nat}
def tA (n : Nat) (T : am_T) : am_T := am_setT (am_setT (am_setT (am_setT (am_setT (am_setT T (13, n, 0) 2 (some (14, n, 0))) (13, n, 0) 3 (some (15, n, 0))) (13, n, 0) 4 (some (16, n, 0))) (13, n, 0) 6 (some (17, n, 0))) (13, n, 0) 8 (some (18, n, 0))) (13, n, 0) 9 (some (20, n, 0))
def tN (n : Nat) (T : am_T) : am_T := tM n 16 0 (tR n 5 0 (tC n 6 0 (tA n T)))
theorem c33 (hn : n < 12) (hc : c = am_nb n + 1) : ∃ c' p' q', am_ev (d + 2) 33 [am_P (13, n, 0)] M (am_Y T c p q) = some (.inl none, M, am_Y (tN n T) c' p' q') ∧ c' = am_nb n + 56 ∧ p' = p + 55 ∧ q' = q + 502 := by
  have h14 : am_nl (c) (14, n, 0) (3, 2, 6) := nlA (r := 1) hn (by omega) (by decide) (am_okN rfl hn) rfl rfl
  have h15 : am_nl (c + 1) (15, n, 0) (3, 7, 5) := nlA (r := 2) hn (by omega) (by decide) (am_okN rfl hn) rfl rfl
  have h16 : am_nl (c + 1 + 1) (16, n, 0) (1, 9, 0) := nlA (r := 3) hn (by omega) (by decide) (am_okN rfl hn) rfl rfl
  have h17 : am_nl (c + 1 + 1 + 1) (17, n, 0) (3, 4, 16) := nlA (r := 4) hn (by omega) (by decide) (am_okN rfl hn) rfl rfl
  have h18 : am_nl (c + 1 + 1 + 1 + 1) (18, n, 0) (1, 16, 0) := nlA (r := 5) hn (by omega) (by decide) (am_okN rfl hn) rfl rfl
  have h20 : am_nl (c + 1 + 1 + 1 + 1 + 1) (20, n, 0) (1, 8, 0) := nl20 hn (by omega)
  have k13 := ck13 hn
  have a1 : am_ad (13, n, 0) < c + 1 := by show am_nb n < _; omega
  have a2 : am_ad (13, n, 0) < c + 1 + 1 := by show am_nb n < _; omega
  have a3 : am_ad (13, n, 0) < c + 1 + 1 + 1 := by show am_nb n < _; omega
  have a4 : am_ad (13, n, 0) < c + 1 + 1 + 1 + 1 := by show am_nb n < _; omega
  have a5 : am_ad (13, n, 0) < c + 1 + 1 + 1 + 1 + 1 := by show am_nb n < _; omega
  have a6 : am_ad (13, n, 0) < c + 1 + 1 + 1 + 1 + 1 + 1 := by show am_nb n < _; omega
  obtain ⟨c1, p1, q1, e1, e2, e3, e4⟩ := l33c (d := d) (M := M) hn 6 0 (c + 1 + 1 + 1 + 1 + 1 + 1) (p + 1 + 1 + 1 + 1 + 1 + 1) (q + 6 + 5 + 9 + 16 + 16 + 8) (tA n T) rfl (by omega) (by simp [tA, am_setT])
  have s1 : ∀ r k T, tC n r k T (13, n, 0) = T (13, n, 0) := by
    intro r
    induction r with
    | zero => intro k T; rfl
    | succ r ih =>
      intro k T
      refine (ih _ _).trans ?_
      funext j
      rw [sT_t (by decide), sT_t (by decide)]
  have s2 : ∀ r k T, tR n r k T (13, n, 0) = T (13, n, 0) := by
    intro r
    induction r with
    | zero => intro k T; rfl
    | succ r ih =>
      intro k T
      refine (ih _ _).trans ?_
      funext j
      rw [sT_t (by decide)]
  obtain ⟨c2, p2, q2, f1, f2, f3, f4⟩ := l33r (d := d) (M := M) hn 5 0 c1 p1 q1 (tC n 6 0 (tA n T)) rfl (by omega) (by rw [s1]; simp [tA, am_setT])
  obtain ⟨c3, p3, q3, g1, g2, g3, g4⟩ := l33m (d := d) (M := M) hn 16 0 c2 p2 q2 (tR n 5 0 (tC n 6 0 (tA n T))) rfl (by omega) (by rw [s2, s1]; simp [tA, am_setT])
  refine ⟨c3, p3, q3, ?_, g2, by omega, by omega⟩
  refine (am_ev_eq (d + 1) 33 _ M _).trans ?_
  show am_rn (am_ev (d + 1)) 33 0 [some (am_P (13, n, 0)), none] [] M _ = _
  refine Eq.trans (rl_aloadn (j := 0) (by decide +kernel) rfl) ?_
  refine Eq.trans (cy_obj (ix := 3) (y := 0) (by decide +kernel) (by decide +kernel) rfl) ?_
  refine Eq.trans (rl_aloadn (j := 0) (by decide +kernel) rfl) ?_
  refine Eq.trans (rl_bipush (c := 6) (k := nI 6) (by decide +kernel) (by decide)) ?_
  refine Eq.trans (cy_anew (ix := 9) (ci := 2) (k := 6) (by decide +kernel) (by decide +kernel) (by decide) (by decide) h14) ?_
  refine Eq.trans (cy_putP (ix := 11) (ci := 5) (j := 2) (by decide +kernel) (by decide +kernel) (by decide +kernel) (by decide +kernel) k13 a1 h14.2.1 (by rw [h14.2.2.1]; exact Nat.lt_succ_self _)) ?_
  refine Eq.trans (rl_aloadn (j := 0) (by decide +kernel) rfl) ?_
  refine Eq.trans (rl_iconst (c := 5) (k := nI 5) (by decide +kernel) (by decide)) ?_
  refine Eq.trans (cy_anew (ix := 17) (ci := 7) (k := 5) (by decide +kernel) (by decide +kernel) (by decide) (by decide) h15) ?_
  refine Eq.trans (cy_putP (ix := 19) (ci := 5) (j := 3) (by decide +kernel) (by decide +kernel) (by decide +kernel) (by decide +kernel) k13 a2 h15.2.1 (by rw [h15.2.2.1]; exact Nat.lt_succ_self _)) ?_
  refine Eq.trans (rl_aloadn (j := 0) (by decide +kernel) rfl) ?_
  refine Eq.trans (rl_bipush (c := 9) (k := nI 9) (by decide +kernel) (by decide)) ?_
  refine Eq.trans (cy_newI (k := 9) (by decide +kernel) (by decide) (by decide) h16) ?_
  refine Eq.trans (cy_putP (ix := 23) (ci := 5) (j := 4) (by decide +kernel) (by decide +kernel) (by decide +kernel) (by decide +kernel) k13 a3 h16.2.1 (by rw [h16.2.2.1]; exact Nat.lt_succ_self _)) ?_
  refine Eq.trans (rl_aloadn (j := 0) (by decide +kernel) rfl) ?_
  refine Eq.trans (rl_bipush (c := 16) (k := nI 16) (by decide +kernel) (by decide)) ?_
  refine Eq.trans (cy_anew (ix := 27) (ci := 4) (k := 16) (by decide +kernel) (by decide +kernel) (by decide) (by decide) h17) ?_
  refine Eq.trans (cy_putP (ix := 29) (ci := 5) (j := 6) (by decide +kernel) (by decide +kernel) (by decide +kernel) (by decide +kernel) k13 a4 h17.2.1 (by rw [h17.2.2.1]; exact Nat.lt_succ_self _)) ?_
  refine Eq.trans (rl_aloadn (j := 0) (by decide +kernel) rfl) ?_
  refine Eq.trans (rl_bipush (c := 16) (k := nI 16) (by decide +kernel) (by decide)) ?_
  refine Eq.trans (cy_newI (k := 16) (by decide +kernel) (by decide) (by decide) h18) ?_
  refine Eq.trans (cy_putP (ix := 33) (ci := 5) (j := 8) (by decide +kernel) (by decide +kernel) (by decide +kernel) (by decide +kernel) k13 a5 h18.2.1 (by rw [h18.2.2.1]; exact Nat.lt_succ_self _)) ?_
  refine Eq.trans (rl_aloadn (j := 0) (by decide +kernel) rfl) ?_
  refine Eq.trans (rl_bipush (c := 8) (k := nI 8) (by decide +kernel) (by decide)) ?_
  refine Eq.trans (cy_newI (k := 8) (by decide +kernel) (by decide) (by decide) h20) ?_
  refine Eq.trans (cy_putP (ix := 36) (ci := 5) (j := 9) (by decide +kernel) (by decide +kernel) (by decide +kernel) (by decide +kernel) k13 a6 h20.2.1 (by rw [h20.2.2.1]; exact Nat.lt_succ_self _)) ?_
  refine Eq.trans (rl_iconst (c := 0) (k := nI 0) (by decide +kernel) (by decide)) ?_
  refine Eq.trans (rl_istoren (j := 1) (ls' := [some (am_P (13, n, 0)), some (am_I (nI 0))]) (by decide +kernel) rfl rfl) ?_
  refine Eq.trans e1 ?_
  refine Eq.trans (rl_iconst (c := 0) (k := nI 0) (by decide +kernel) (by decide)) ?_
  refine Eq.trans (rl_istoren (j := 1) (ls' := [some (am_P (13, n, 0)), some (am_I (nI 0))]) (by decide +kernel) rfl rfl) ?_
  refine Eq.trans f1 ?_
  refine Eq.trans (rl_iconst (c := 0) (k := nI 0) (by decide +kernel) (by decide)) ?_
  refine Eq.trans (rl_istoren (j := 1) (ls' := [some (am_P (13, n, 0)), some (am_I (nI 0))]) (by decide +kernel) rfl rfl) ?_
  exact g1
/-- where the references of a network lead -/
theorem tC_v : ∀ r k T (l : am_L) j, tC n r k T l j = if l.1 = 21 ∧ l.2.1 = n ∧ k ≤ l.2.2 ∧ l.2.2 < k + r ∧ j = 7 then some (22, n, l.2.2) else if l = (14, n, 0) ∧ k ≤ j ∧ j < k + r then some (21, n, j) else T l j := by
  intro r
  induction r with
  | zero =>
    intro k T l j
    rw [if_neg (by omega), if_neg (by omega)]
    rfl
  | succ r ih =>
    intro k T l j
    refine (ih _ _ _ _).trans ?_
    obtain ⟨t, m, x⟩ := l
    dsimp only
    by_cases h1 : t = 21 ∧ m = n ∧ k + 1 ≤ x ∧ x < k + 1 + r ∧ j = 7
    · rw [if_pos h1, if_pos (by omega)]
    · rw [if_neg h1]
      by_cases h2 : (t, m, x) = ((14, n, 0) : am_L) ∧ k + 1 ≤ j ∧ j < k + 1 + r
      · rw [if_pos h2, if_neg (fun q => by have := (pl_e h2.1).1; omega), if_pos ⟨h2.1, by omega, by omega⟩]
      · rw [if_neg h2]
        by_cases h3 : t = 21 ∧ m = n ∧ x = k ∧ j = 7
        · obtain ⟨rfl, rfl, rfl, rfl⟩ := h3
          rw [sT_t (by decide), sT_eq, if_pos (by omega)]
        · rw [if_neg (by omega)]
          by_cases h4 : (t, m, x) = ((14, n, 0) : am_L) ∧ j = k
          · obtain ⟨h4, rfl⟩ := h4
            rw [h4, sT_eq, if_pos ⟨rfl, by omega, by omega⟩]
          · rw [sT_ne h4, sT_ne (fun q => h3 ⟨(pl_e q.1).1, (pl_e q.1).2.1, (pl_e q.1).2.2, q.2⟩), if_neg (fun q => by
              have h5 : ¬ (j = k) := fun e => h4 ⟨q.1, e⟩
              exact h2 ⟨q.1, by omega, by omega⟩)]
theorem tM_v : ∀ r k T (l : am_L) j, tM n r k T l j = if l.1 = 24 ∧ l.2.1 = n ∧ k ≤ l.2.2 ∧ l.2.2 < k + r ∧ j = 9 then some (25, n, l.2.2) else if l = (17, n, 0) ∧ k ≤ j ∧ j < k + r then some (24, n, j) else T l j := by
  intro r
  induction r with
  | zero =>
    intro k T l j
    rw [if_neg (by omega), if_neg (by omega)]
    rfl
  | succ r ih =>
    intro k T l j
    refine (ih _ _ _ _).trans ?_
    obtain ⟨t, m, x⟩ := l
    dsimp only
    by_cases h1 : t = 24 ∧ m = n ∧ k + 1 ≤ x ∧ x < k + 1 + r ∧ j = 9
    · rw [if_pos h1, if_pos (by omega)]
    · rw [if_neg h1]
      by_cases h2 : (t, m, x) = ((17, n, 0) : am_L) ∧ k + 1 ≤ j ∧ j < k + 1 + r
      · rw [if_pos h2, if_neg (fun q => by have := (pl_e h2.1).1; omega), if_pos ⟨h2.1, by omega, by omega⟩]
      · rw [if_neg h2]
        by_cases h3 : t = 24 ∧ m = n ∧ x = k ∧ j = 9
        · obtain ⟨rfl, rfl, rfl, rfl⟩ := h3
          rw [sT_t (by decide), sT_eq, if_pos (by omega)]
        · rw [if_neg (by omega)]
          by_cases h4 : (t, m, x) = ((17, n, 0) : am_L) ∧ j = k
          · obtain ⟨h4, rfl⟩ := h4
            rw [h4, sT_eq, if_pos ⟨rfl, by omega, by omega⟩]
          · rw [sT_ne h4, sT_ne (fun q => h3 ⟨(pl_e q.1).1, (pl_e q.1).2.1, (pl_e q.1).2.2, q.2⟩), if_neg (fun q => by
              have h5 : ¬ (j = k) := fun e => h4 ⟨q.1, e⟩
              exact h2 ⟨q.1, by omega, by omega⟩)]
theorem tR_v : ∀ r k T (l : am_L) j, tR n r k T l j = if l = (15, n, 0) ∧ k ≤ j ∧ j < k + r then some (23, n, j) else T l j := by
  intro r
  induction r with
  | zero =>
    intro k T l j
    rw [if_neg (by omega)]
    rfl
  | succ r ih =>
    intro k T l j
    refine (ih _ _ _ _).trans ?_
    by_cases h2 : l = ((15, n, 0) : am_L) ∧ k + 1 ≤ j ∧ j < k + 1 + r
    · rw [if_pos h2, if_pos ⟨h2.1, by omega, by omega⟩]
    · rw [if_neg h2]
      by_cases h4 : l = ((15, n, 0) : am_L) ∧ j = k
      · obtain ⟨rfl, rfl⟩ := h4
        rw [sT_eq, if_pos ⟨rfl, by omega, by omega⟩]
      · rw [sT_ne h4, if_neg (fun q => by
          have h5 : ¬ (j = k) := fun e => h4 ⟨q.1, e⟩
          exact h2 ⟨q.1, by omega, by omega⟩)]
end AmMo
