/-! THE MAKING OF THE CLASS AND OF THE REFERENCE -/
section AmMw
variable {d : Nat} {M : am_M} {T : am_T} {n k c p q : Nat}
/-- the network n made -/
def tNf (n : Nat) (T : am_T) : am_T := fun l j => if 13 ≤ l.1 ∧ l.1 ≤ 25 ∧ l.2.1 = n then am_T0 l j else T l j
theorem tNf_o {l : am_L} {j : Nat} (h : l.1 < 13 ∨ 25 < l.1 ∨ l.2.1 ≠ n) : tNf n T l j = T l j := if_neg (fun q => by omega)
theorem cN33 (hn : n < 12) (hc : c = am_nb n + 1) (hT : ∀ t x j, 13 ≤ t → t ≤ 25 → T (t, n, x) j = none) : ∃ c' p' q', am_ev (d + 2) 33 [am_P (13, n, 0)] M (am_Y T c p q) = some (.inl none, M, am_Y (tNf n T) c' p' q') ∧ c' = am_nb n + 56 ∧ p' = p + 55 ∧ q' = q + 502 := by
  have h := c33 (d := d) (M := M) (T := T) (p := p) (q := q) hn hc
  rw [tN_v hn hT] at h
  exact h
/-- the commands' records -/
def tQ : Nat → Nat → am_T → am_T
  | 0, _, T => T
  | r + 1, k, T => tQ r (k + 1) (am_setT T (10, 0, 0) k (some (11, 0, k)))
theorem tQ_v : ∀ r k T (l : am_L) j, tQ r k T l j = if l = (10, 0, 0) ∧ k ≤ j ∧ j < k + r then some (11, 0, j) else T l j := by
  intro r
  induction r with
  | zero =>
    intro k T l j
    rw [if_neg (by omega)]
    rfl
  | succ r ih =>
    intro k T l j
    refine (ih _ _ _ _).trans ?_
    by_cases h2 : l = ((10, 0, 0) : am_L) ∧ k + 1 ≤ j ∧ j < k + 1 + r
    · rw [if_pos h2, if_pos ⟨h2.1, by omega, by omega⟩]
    · rw [if_neg h2]
      by_cases h4 : l = ((10, 0, 0) : am_L) ∧ j = k
      · obtain ⟨rfl, rfl⟩ := h4
        rw [sT_eq, if_pos ⟨rfl, by omega, by omega⟩]
      · rw [sT_ne h4, if_neg (fun q => by
          have h5 : ¬ (j = k) := fun e => h4 ⟨q.1, e⟩
          exact h2 ⟨q.1, by omega, by omega⟩)]
theorem l2q : ∀ r k c p q T, k + r = 20 → c = 680 + k → T (8, 0, 0) 2 = some (10, 0, 0) → ∃ c' p' q', am_rn (am_ev (d + 1)) 2 23 [some (am_P (8, 0, 0)), some (am_I (nI k))] [] M (am_Y T c p q) = some (.inl none, M, am_Y (tQ r k T) c' p' q') ∧ c' = 700 ∧ p' = p + r ∧ q' = q + 4 * r := by
  intro r
  induction r with
  | zero =>
    intro k c p q T hk hc hT
    obtain rfl : k = 20 := by omega
    refine ⟨c, p, q, ?_, by omega, rfl, rfl⟩
    refine Eq.trans (rl_iloadn (j := 1) (by decide +kernel) rfl) ?_
    refine Eq.trans (rl_bipush (c := 20) (k := nI 20) (by decide +kernel) (by decide)) ?_
    refine Eq.trans (rl_icge (o := 22) 48 (by decide +kernel) (by decide)) ?_
    rw [if_neg (nI_nlt (by omega) (by omega))]
    exact rl_ret (by decide +kernel) rfl
  | succ r ih =>
    intro k c p q T hk hc hT
    have h11 := nl11 (show k < 20 by omega) hc
    have k11 := ck11 (show k < 20 by omega)
    have a11 : am_ad (11, 0, k) < c + 1 := by rw [h11.2.2.1]; omega
    have a8 : am_ad (8, 0, 0) < c := by show 677 < c; omega
    have a10 : am_ad (10, 0, 0) < c := by show 679 < c; omega
    obtain ⟨c', p', q', e1, e2, e3, e4⟩ := ih (k + 1) (c + 1) (p + 1) (q + 4) (am_setT T (10, 0, 0) k (some (11, 0, k))) (by omega) (by omega) ((sT_t (by decide)).trans hT)
    refine ⟨c', p', q', ?_, e2, by omega, by omega⟩
    refine Eq.trans ?_ e1
    refine Eq.trans (rl_iloadn (j := 1) (by decide +kernel) rfl) ?_
    refine Eq.trans (rl_bipush (c := 20) (k := nI 20) (by decide +kernel) (by decide)) ?_
    refine Eq.trans (rl_icge (o := 22) 48 (by decide +kernel) (by decide)) ?_
    rw [if_pos (nI_lt (by omega) (by omega))]
    refine Eq.trans (rl_aloadn (j := 0) (by decide +kernel) rfl) ?_
    refine Eq.trans (cy_getP (ix := 17) (ci := 1) (j := 2) (by decide +kernel) (by decide +kernel) (by decide +kernel) ck8 a8 hT) ?_
    refine Eq.trans (rl_iloadn (j := 1) (by decide +kernel) rfl) ?_
    refine Eq.trans (cy_new (ix := 15) (ci := 0) (n := 4) (by decide +kernel) (by decide +kernel) (by decide +kernel) h11) ?_
    refine Eq.trans (rl_dup (by decide +kernel) rfl) ?_
    refine Eq.trans (cy_inv (ix := 21) (y := 0) (o := 0) (k := 3) (by decide +kernel) (by decide +kernel) (Or.inr rfl) (by decide +kernel) (by decide +kernel) ⟨rfl, rfl⟩ rfl k11 a11 (c0 (d := d))) ?_
    refine Eq.trans (cy_aast (ci := 0) (n := 20) (by decide +kernel) ka10 (by omega) (by omega) (by decide) k11 (by omega)) ?_
    refine Eq.trans (rl_iinc (j := 1) (c := 1) (k := nI 1) (by decide +kernel) (by decide) rfl rfl) ?_
    refine Eq.trans (rl_goto (o := -22) 23 (by decide +kernel) (by decide)) ?_
    rw [nI_add]
    rfl
theorem nlc {c : Nat} {l : am_L} {k : Nat × Nat × Nat} (h1 : am_lo c = l) (h2 : am_ok l = true) (h3 : am_ad l = c) (h4 : am_kd l = k) (h5 : l.1 ≠ 0) (h6 : c + 1 ≠ 701) : am_nl c l k := ⟨h1, h2, h3, h4, h5, h6⟩
theorem cM2 (hc : c = 678) : ∃ c' p' q', am_ev (d + 2) 2 [am_P (8, 0, 0)] M (am_Y T c p q) = some (.inl none, M, am_Y (tQ 20 0 (am_setT (am_setT T (8, 0, 0) 0 (some (9, 0, 0))) (8, 0, 0) 2 (some (10, 0, 0)))) c' p' q') ∧ c' = 700 ∧ p' = p + 22 ∧ q' = q + 160 := by
  subst hc
  obtain ⟨c', p', q', e1, e2, e3, e4⟩ := l2q (d := d) (M := M) 20 0 (678 + 1 + 1) (p + 1 + 1) (q + 60 + 20) (am_setT (am_setT T (8, 0, 0) 0 (some (9, 0, 0))) (8, 0, 0) 2 (some (10, 0, 0))) rfl rfl sT_eq
  refine ⟨c', p', q', ?_, e2, by omega, by omega⟩
  refine (am_ev_eq (d + 1) 2 _ M _).trans ?_
  show am_rn (am_ev (d + 1)) 2 0 [some (am_P (8, 0, 0)), none] [] M _ = _
  refine Eq.trans (rl_aloadn (j := 0) (by decide +kernel) rfl) ?_
  refine Eq.trans (cy_obj (ix := 3) (y := 0) (by decide +kernel) (by decide +kernel) rfl) ?_
  refine Eq.trans (rl_aloadn (j := 0) (by decide +kernel) rfl) ?_
  refine Eq.trans (rl_bipush (c := 60) (k := nI 60) (by decide +kernel) (by decide)) ?_
  refine Eq.trans (cy_newC (l := (9, 0, 0)) (k := 60) (by decide +kernel) (by decide) (by decide) (nlc (by decide) (by decide) (by decide) (by decide) (by decide) (by decide))) ?_
  refine Eq.trans (cy_putP (ix := 9) (ci := 1) (j := 0) (by decide +kernel) (by decide +kernel) (by decide +kernel) (by decide +kernel) ck8 (by decide) (by decide) (by decide)) ?_
  refine Eq.trans (rl_aloadn (j := 0) (by decide +kernel) rfl) ?_
  refine Eq.trans (rl_bipush (c := 20) (k := nI 20) (by decide +kernel) (by decide)) ?_
  refine Eq.trans (cy_anew (ix := 15) (ci := 0) (l := (10, 0, 0)) (k := 20) (by decide +kernel) (by decide +kernel) (by decide) (by decide) (nlc (by decide) (by decide) (by decide) (by decide) (by decide) (by decide))) ?_
  refine Eq.trans (cy_putP (ix := 17) (ci := 1) (j := 2) (by decide +kernel) (by decide +kernel) (by decide +kernel) (by decide +kernel) ck8 (by decide) (by decide) (by decide)) ?_
  refine Eq.trans (rl_iconst (c := 0) (k := nI 0) (by decide +kernel) (by decide)) ?_
  refine Eq.trans (rl_istoren (j := 1) (ls' := [some (am_P (8, 0, 0)), some (am_I (nI 0))]) (by decide +kernel) rfl rfl) ?_
  exact e1
/-- the networks kept -/
def tH : Nat → Nat → am_T → am_T
  | 0, _, T => T
  | r + 1, k, T => tH r (k + 1) (am_setT (tNf (k + 3) T) (5, 0, 0) k (some (13, k + 3, 0)))
theorem tH_v : ∀ r k T (l : am_L) j, tH r k T l j = if 13 ≤ l.1 ∧ l.1 ≤ 25 ∧ k + 3 ≤ l.2.1 ∧ l.2.1 < k + 3 + r then am_T0 l j else if l = (5, 0, 0) ∧ k ≤ j ∧ j < k + r then some (13, j + 3, 0) else T l j := by
  intro r
  induction r with
  | zero =>
    intro k T l j
    rw [if_neg (by omega), if_neg (by omega)]
    rfl
  | succ r ih =>
    intro k T l j
    refine (ih _ _ _ _).trans ?_
    by_cases h1 : 13 ≤ l.1 ∧ l.1 ≤ 25 ∧ k + 1 + 3 ≤ l.2.1 ∧ l.2.1 < k + 1 + 3 + r
    · rw [if_pos h1, if_pos (by omega)]
    · rw [if_neg h1]
      by_cases h2 : l = ((5, 0, 0) : am_L) ∧ k + 1 ≤ j ∧ j < k + 1 + r
      · have h3 : l.1 = 5 := by rw [h2.1]
        rw [if_pos h2, if_neg (by omega), if_pos ⟨h2.1, by omega, by omega⟩]
      · rw [if_neg h2]
        by_cases h4 : l = ((5, 0, 0) : am_L) ∧ j = k
        · obtain ⟨rfl, rfl⟩ := h4
          rw [sT_eq, if_neg (fun q => absurd q.1 (by decide)), if_pos ⟨rfl, by omega, by omega⟩]
        · rw [sT_ne h4]
          have h6 : ¬ (l = ((5, 0, 0) : am_L) ∧ k ≤ j ∧ j < k + (r + 1)) := fun q => by
            have h5 : ¬ (j = k) := fun e => h4 ⟨q.1, e⟩
            exact h2 ⟨q.1, by omega, by omega⟩
          rw [if_neg h6]
          unfold tNf
          by_cases h7 : 13 ≤ l.1 ∧ l.1 ≤ 25 ∧ l.2.1 = k + 3
          · rw [if_pos h7, if_pos (by omega)]
          · rw [if_neg h7, if_neg (by omega)]
theorem l21h : ∀ r k c p q T, k + r = 9 → c = 171 + 56 * k → T (4, 0, 0) 0 = some (5, 0, 0) → (∀ m t x j, k + 3 ≤ m → 13 ≤ t → t ≤ 25 → T (t, m, x) j = none) → ∃ c' p' q', am_rn (am_ev (d + 2)) 21 15 [some (am_P (4, 0, 0)), some (am_I (nI k))] [] M (am_Y T c p q) = some (.inl none, M, am_Y (tH r k T) c' p' q') ∧ c' = 675 ∧ p' = p + 56 * r ∧ q' = q + 512 * r := by
  intro r
  induction r with
  | zero =>
    intro k c p q T hk hc hT hN
    obtain rfl : k = 9 := by omega
    refine ⟨c, p, q, ?_, by omega, rfl, rfl⟩
    refine Eq.trans (rl_iloadn (j := 1) (by decide +kernel) rfl) ?_
    refine Eq.trans (rl_bipush (c := 9) (k := nI 9) (by decide +kernel) (by decide)) ?_
    refine Eq.trans (rl_icge (o := 22) 40 (by decide +kernel) (by decide)) ?_
    rw [if_neg (nI_nlt (by omega) (by omega))]
    exact rl_ret (by decide +kernel) rfl
  | succ r ih =>
    intro k c p q T hk hc hT hN
    have hk3 : k + 3 < 12 := by omega
    have hnb : am_nb (k + 3) = 171 + 56 * k := by unfold am_nb; rw [if_neg (by omega)]; omega
    have h13 := nl13 hk3 (hc.trans hnb.symm)
    have k13 := ck13 hk3
    have a13 : am_ad (13, k + 3, 0) < c + 1 := by rw [h13.2.2.1]; omega
    have a4 : am_ad (4, 0, 0) < c := by show 169 < c; omega
    have a5 : am_ad (5, 0, 0) < c := by show 170 < c; omega
    obtain ⟨c1, p1, q1, f1, f2, f3, f4⟩ := cN33 (d := d) (M := M) (T := T) (c := c + 1) (p := p + 1) (q := q + 10) hk3 (by omega) (fun t x j => hN (k + 3) t x j (by omega))
    obtain ⟨c', p', q', e1, e2, e3, e4⟩ := ih (k + 1) c1 p1 q1 (am_setT (tNf (k + 3) T) (5, 0, 0) k (some (13, k + 3, 0))) (by omega) (by omega) ((sT_t (by decide)).trans ((tNf_o (Or.inl (by decide))).trans hT)) (fun m t x j h1 h2 h3 => (sT_t (by omega)).trans ((tNf_o (Or.inr (Or.inr (by show m ≠ k + 3; omega)))).trans (hN m t x j (by omega) h2 h3)))
    refine ⟨c', p', q', ?_, e2, by omega, by omega⟩
    refine Eq.trans ?_ e1
    refine Eq.trans (rl_iloadn (j := 1) (by decide +kernel) rfl) ?_
    refine Eq.trans (rl_bipush (c := 9) (k := nI 9) (by decide +kernel) (by decide)) ?_
    refine Eq.trans (rl_icge (o := 22) 40 (by decide +kernel) (by decide)) ?_
    rw [if_pos (nI_lt (by omega) (by omega))]
    refine Eq.trans (rl_aloadn (j := 0) (by decide +kernel) rfl) ?_
    refine Eq.trans (cy_getP (ix := 11) (ci := 3) (j := 0) (by decide +kernel) (by decide +kernel) (by decide +kernel) ck4 a4 hT) ?_
    refine Eq.trans (rl_iloadn (j := 1) (by decide +kernel) rfl) ?_
    refine Eq.trans (cy_new (ix := 9) (ci := 5) (n := 10) (by decide +kernel) (by decide +kernel) (by decide +kernel) h13) ?_
    refine Eq.trans (rl_dup (by decide +kernel) rfl) ?_
    refine Eq.trans (cy_inv (ix := 17) (y := 33) (o := 5) (k := 2) (by decide +kernel) (by decide +kernel) (Or.inl rfl) (by decide +kernel) (by decide +kernel) ⟨rfl, rfl⟩ rfl k13 a13 f1) ?_
    refine Eq.trans (cy_aast (ci := 5) (n := 9) (by decide +kernel) ka5 (by omega) (by omega) (by decide) k13 (by omega)) ?_
    refine Eq.trans (rl_iinc (j := 1) (c := 1) (k := nI 1) (by decide +kernel) (by decide) rfl rfl) ?_
    refine Eq.trans (rl_goto (o := -22) 15 (by decide +kernel) (by decide)) ?_
    rw [nI_add]
    rfl
theorem cM21 (hc : c = 170) (hN : ∀ m t x j, 3 ≤ m → 13 ≤ t → t ≤ 25 → T (t, m, x) j = none) : ∃ c' p' q', am_ev (d + 3) 21 [am_P (4, 0, 0)] M (am_Y T c p q) = some (.inl none, M, am_Y (tH 9 0 (am_setT T (4, 0, 0) 0 (some (5, 0, 0)))) c' p' q') ∧ c' = 675 ∧ p' = p + 505 ∧ q' = q + 4617 := by
  subst hc
  obtain ⟨c', p', q', e1, e2, e3, e4⟩ := l21h (d := d) (M := M) 9 0 (170 + 1) (p + 1) (q + 9) (am_setT T (4, 0, 0) 0 (some (5, 0, 0))) rfl rfl sT_eq (fun m t x j h1 h2 h3 => (sT_t (by omega)).trans (hN m t x j (by omega) h2 h3))
  refine ⟨c', p', q', ?_, e2, by omega, by omega⟩
  refine (am_ev_eq (d + 2) 21 _ M _).trans ?_
  show am_rn (am_ev (d + 2)) 21 0 [some (am_P (4, 0, 0)), none] [] M _ = _
  refine Eq.trans (rl_aloadn (j := 0) (by decide +kernel) rfl) ?_
  refine Eq.trans (cy_obj (ix := 3) (y := 0) (by decide +kernel) (by decide +kernel) rfl) ?_
  refine Eq.trans (rl_aloadn (j := 0) (by decide +kernel) rfl) ?_
  refine Eq.trans (rl_bipush (c := 9) (k := nI 9) (by decide +kernel) (by decide)) ?_
  refine Eq.trans (cy_anew (ix := 9) (ci := 5) (l := (5, 0, 0)) (k := 9) (by decide +kernel) (by decide +kernel) (by decide) (by decide) (nlc (by decide) (by decide) (by decide) (by decide) (by decide) (by decide))) ?_
  refine Eq.trans (cy_putP (ix := 11) (ci := 3) (j := 0) (by decide +kernel) (by decide +kernel) (by decide +kernel) (by decide +kernel) ck4 (by decide) (by decide) (by decide)) ?_
  refine Eq.trans (rl_iconst (c := 0) (k := nI 0) (by decide +kernel) (by decide)) ?_
  refine Eq.trans (rl_istoren (j := 1) (ls' := [some (am_P (4, 0, 0)), some (am_I (nI 0))]) (by decide +kernel) rfl rfl) ?_
  exact e1
theorem cM62 (hc : 675 < c) : am_ev (d + 1) 62 [am_P (6, 0, 0)] M (am_Y T c p q) = some (.inl none, am_set M (6, 0, 0) 0 (nI 0), am_Y T c p q) := by
  refine (am_ev_eq d 62 _ M _).trans ?_
  show am_rn (am_ev d) 62 0 [some (am_P (6, 0, 0))] [] M _ = _
  refine Eq.trans (rl_aloadn (j := 0) (by decide +kernel) rfl) ?_
  refine Eq.trans (cy_obj (ix := 3) (y := 0) (by decide +kernel) (by decide +kernel) rfl) ?_
  refine Eq.trans (rl_aloadn (j := 0) (by decide +kernel) rfl) ?_
  refine Eq.trans (rl_iconst (c := 0) (k := nI 0) (by decide +kernel) (by decide)) ?_
  refine Eq.trans (cy_putI (ix := 9) (ci := 6) (j := 0) (by decide +kernel) (by decide +kernel) (by decide +kernel) (by decide +kernel) ck6 hc) ?_
  exact rl_ret (by decide +kernel) rfl
end AmMw
