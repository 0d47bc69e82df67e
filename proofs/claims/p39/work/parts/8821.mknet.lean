/-! THE MAKING OF A NETWORK -/
theorem sT_eq {T : am_T} {l : am_L} {j : Nat} {x : Option am_L} : am_setT T l j x l j = x := if_pos ⟨rfl, rfl⟩
theorem sT_ne {T : am_T} {l l' : am_L} {j j' : Nat} {x : Option am_L} (h : ¬ (l' = l ∧ j' = j)) : am_setT T l j x l' j' = T l' j' := if_neg h
theorem sT_t {T : am_T} {t n k t' n' k' j j' : Nat} {x : Option am_L} (h : t' ≠ t) : am_setT T (t, n, k) j x (t', n', k') j' = T (t', n', k') j' := if_neg (fun q => h (pl_e q.1).1)
section AmMn
variable {d : Nat} {M : am_M} {T : am_T} {n k c p q : Nat}
theorem c15 (hn : n < 12) (hk : k < 6) (hc : c = am_nb n + (8 + 2 * k)) : am_ev (d + 1) 15 [am_P (21, n, k)] M (am_Y T c p q) = some (.inl none, M, am_Y (am_setT T (21, n, k) 7 (some (22, n, k))) (c + 1) (p + 1) (q + 16)) := by
  have h22 := nl22 hn hk hc
  have h21 := ck21 hn hk
  have a21 : am_ad (21, n, k) < c := by show am_nb n + 7 + 2 * k < c; omega
  refine (am_ev_eq d 15 _ M _).trans ?_
  show am_rn (am_ev d) 15 0 [some (am_P (21, n, k))] [] M _ = _
  refine Eq.trans (rl_aloadn (j := 0) (by decide +kernel) rfl) ?_
  refine Eq.trans (cy_obj (ix := 3) (y := 0) (by decide +kernel) (by decide +kernel) rfl) ?_
  refine Eq.trans (rl_aloadn (j := 0) (by decide +kernel) rfl) ?_
  refine Eq.trans (rl_bipush (c := 16) (k := nI 16) (by decide +kernel) (by decide)) ?_
  refine Eq.trans (cy_newI (k := 16) (by decide +kernel) (by decide) (by decide) h22) ?_
  refine Eq.trans (cy_putP (ix := 9) (ci := 2) (j := 7) (by decide +kernel) (by decide +kernel) (by decide +kernel) (by decide +kernel) h21 (Nat.lt_succ_of_lt a21) h22.2.1 (by rw [h22.2.2.1]; exact Nat.lt_succ_self _)) ?_
  exact rl_ret (by decide +kernel) rfl
theorem c25 (hn : n < 12) (hk : k < 16) (hc : c = am_nb n + (25 + 2 * k)) : am_ev (d + 1) 25 [am_P (24, n, k)] M (am_Y T c p q) = some (.inl none, M, am_Y (am_setT T (24, n, k) 9 (some (25, n, k))) (c + 1) (p + 1) (q + 8)) := by
  have h25 := nl25 hn hk hc
  have h24 := ck24 hn hk
  have a24 : am_ad (24, n, k) < c := by show am_nb n + 24 + 2 * k < c; omega
  refine (am_ev_eq d 25 _ M _).trans ?_
  show am_rn (am_ev d) 25 0 [some (am_P (24, n, k))] [] M _ = _
  refine Eq.trans (rl_aloadn (j := 0) (by decide +kernel) rfl) ?_
  refine Eq.trans (cy_obj (ix := 3) (y := 0) (by decide +kernel) (by decide +kernel) rfl) ?_
  refine Eq.trans (rl_aloadn (j := 0) (by decide +kernel) rfl) ?_
  refine Eq.trans (rl_bipush (c := 8) (k := nI 8) (by decide +kernel) (by decide)) ?_
  refine Eq.trans (cy_newI (k := 8) (by decide +kernel) (by decide) (by decide) h25) ?_
  refine Eq.trans (cy_putP (ix := 9) (ci := 4) (j := 9) (by decide +kernel) (by decide +kernel) (by decide +kernel) (by decide +kernel) h24 (Nat.lt_succ_of_lt a24) h25.2.1 (by rw [h25.2.2.1]; exact Nat.lt_succ_self _)) ?_
  exact rl_ret (by decide +kernel) rfl
theorem c64 {l : am_L} {X : am_X} : am_ev (d + 1) 64 [am_P l] M X = some (.inl none, M, X) := by
  refine (am_ev_eq d 64 _ M _).trans ?_
  show am_rn (am_ev d) 64 0 [some (am_P l)] [] M _ = _
  refine Eq.trans (rl_aloadn (j := 0) (by decide +kernel) rfl) ?_
  refine Eq.trans (cy_obj (ix := 1) (y := 0) (by decide +kernel) (by decide +kernel) rfl) ?_
  exact rl_ret (by decide +kernel) rfl
theorem c0 {l : am_L} {X : am_X} : am_ev (d + 1) 0 [am_P l] M X = some (.inl none, M, X) := by
  refine (am_ev_eq d 0 _ M _).trans ?_
  show am_rn (am_ev d) 0 0 [some (am_P l)] [] M _ = _
  refine Eq.trans (rl_aloadn (j := 0) (by decide +kernel) rfl) ?_
  refine Eq.trans (cy_obj (ix := 1) (y := 0) (by decide +kernel) (by decide +kernel) rfl) ?_
  exact rl_ret (by decide +kernel) rfl
/-- the convents, the ridges, the messages of the network n, r of them from k on -/
def tC (n : Nat) : Nat → Nat → am_T → am_T
  | 0, _, T => T
  | r + 1, k, T => tC n r (k + 1) (am_setT (am_setT T (21, n, k) 7 (some (22, n, k))) (14, n, 0) k (some (21, n, k)))
def tR (n : Nat) : Nat → Nat → am_T → am_T
  | 0, _, T => T
  | r + 1, k, T => tR n r (k + 1) (am_setT T (15, n, 0) k (some (23, n, k)))
def tM (n : Nat) : Nat → Nat → am_T → am_T
  | 0, _, T => T
  | r + 1, k, T => tM n r (k + 1) (am_setT (am_setT T (24, n, k) 9 (some (25, n, k))) (17, n, 0) k (some (24, n, k)))
theorem l33c (hn : n < 12) : ∀ r k c p q T, k + r = 6 → c = am_nb n + (7 + 2 * k) → T (13, n, 0) 2 = some (14, n, 0) → ∃ c' p' q', am_rn (am_ev (d + 1)) 33 56 [some (am_P (13, n, 0)), some (am_I (nI k))] [] M (am_Y T c p q) = am_rn (am_ev (d + 1)) 33 81 [some (am_P (13, n, 0)), some (am_I (nI 6))] [] M (am_Y (tC n r k T) c' p' q') ∧ c' = am_nb n + 19 ∧ p' = p + 2 * r ∧ q' = q + 24 * r := by
  intro r
  induction r with
  | zero =>
    intro k c p q T hk hc hT
    obtain rfl : k = 6 := by omega
    refine ⟨c, p, q, ?_, by omega, rfl, rfl⟩
    refine Eq.trans (rl_iloadn (j := 1) (by decide +kernel) rfl) ?_
    refine Eq.trans (rl_bipush (c := 6) (k := nI 6) (by decide +kernel) (by decide)) ?_
    refine Eq.trans (rl_icge (o := 22) 81 (by decide +kernel) (by decide)) ?_
    rw [if_neg (nI_nlt (by omega) (by omega))]
    rfl
  | succ r ih =>
    intro k c p q T hk hc hT
    have h21 := nl21 hn (show k < 6 by omega) hc
    have k21 := ck21 hn (show k < 6 by omega)
    have a21 : am_ad (21, n, k) < c + 1 := by rw [h21.2.2.1]; omega
    have a13 : am_ad (13, n, 0) < c := by show am_nb n < c; omega
    have a14 : am_ad (14, n, 0) < c := by show am_nb n + 1 < c; omega
    obtain ⟨c', p', q', e1, e2, e3, e4⟩ := ih (k + 1) (c + 1 + 1) (p + 1 + 1) (q + 8 + 16) (am_setT (am_setT T (21, n, k) 7 (some (22, n, k))) (14, n, 0) k (some (21, n, k))) (by omega) (by omega) ((sT_t (by decide)).trans ((sT_t (by decide)).trans hT))
    refine ⟨c', p', q', ?_, e2, by omega, by omega⟩
    refine Eq.trans ?_ e1
    refine Eq.trans (rl_iloadn (j := 1) (by decide +kernel) rfl) ?_
    refine Eq.trans (rl_bipush (c := 6) (k := nI 6) (by decide +kernel) (by decide)) ?_
    refine Eq.trans (rl_icge (o := 22) 81 (by decide +kernel) (by decide)) ?_
    rw [if_pos (nI_lt (by omega) (by omega))]
    refine Eq.trans (rl_aloadn (j := 0) (by decide +kernel) rfl) ?_
    refine Eq.trans (cy_getP (ix := 11) (ci := 5) (j := 2) (by decide +kernel) (by decide +kernel) (by decide +kernel) (ck13 hn) a13 hT) ?_
    refine Eq.trans (rl_iloadn (j := 1) (by decide +kernel) rfl) ?_
    refine Eq.trans (cy_new (ix := 9) (ci := 2) (n := 8) (by decide +kernel) (by decide +kernel) (by decide +kernel) h21) ?_
    refine Eq.trans (rl_dup (by decide +kernel) rfl) ?_
    refine Eq.trans (cy_inv (ix := 39) (y := 15) (o := 2) (k := 3) (by decide +kernel) (by decide +kernel) (Or.inr rfl) (by decide +kernel) (by decide +kernel) ⟨rfl, rfl⟩ rfl k21 a21 (c15 (d := d) hn (by omega) (by omega))) ?_
    refine Eq.trans (cy_aast (ci := 2) (n := 6) (by decide +kernel) (ka14 hn) (by omega) (by omega) (by decide) k21 (by omega)) ?_
    refine Eq.trans (rl_iinc (j := 1) (c := 1) (k := nI 1) (by decide +kernel) (by decide) rfl rfl) ?_
    refine Eq.trans (rl_goto (o := -22) 56 (by decide +kernel) (by decide)) ?_
    rw [nI_add]
    rfl
theorem l33r (hn : n < 12) : ∀ r k c p q T, k + r = 5 → c = am_nb n + (19 + k) → T (13, n, 0) 3 = some (15, n, 0) → ∃ c' p' q', am_rn (am_ev (d + 1)) 33 83 [some (am_P (13, n, 0)), some (am_I (nI k))] [] M (am_Y T c p q) = am_rn (am_ev (d + 1)) 33 107 [some (am_P (13, n, 0)), some (am_I (nI 5))] [] M (am_Y (tR n r k T) c' p' q') ∧ c' = am_nb n + 24 ∧ p' = p + r ∧ q' = q + 2 * r := by
  intro r
  induction r with
  | zero =>
    intro k c p q T hk hc hT
    obtain rfl : k = 5 := by omega
    refine ⟨c, p, q, ?_, by omega, rfl, rfl⟩
    refine Eq.trans (rl_iloadn (j := 1) (by decide +kernel) rfl) ?_
    refine Eq.trans (rl_iconst (c := 5) (k := nI 5) (by decide +kernel) (by decide)) ?_
    refine Eq.trans (rl_icge (o := 22) 107 (by decide +kernel) (by decide)) ?_
    rw [if_neg (nI_nlt (by omega) (by omega))]
    rfl
  | succ r ih =>
    intro k c p q T hk hc hT
    have h23 := nl23 hn (show k < 5 by omega) hc
    have k23 := ck23 hn (show k < 5 by omega)
    have a23 : am_ad (23, n, k) < c + 1 := by rw [h23.2.2.1]; omega
    have a13 : am_ad (13, n, 0) < c := by show am_nb n < c; omega
    have a15 : am_ad (15, n, 0) < c := by show am_nb n + 2 < c; omega
    obtain ⟨c', p', q', e1, e2, e3, e4⟩ := ih (k + 1) (c + 1) (p + 1) (q + 2) (am_setT T (15, n, 0) k (some (23, n, k))) (by omega) (by omega) ((sT_t (by decide)).trans hT)
    refine ⟨c', p', q', ?_, e2, by omega, by omega⟩
    refine Eq.trans ?_ e1
    refine Eq.trans (rl_iloadn (j := 1) (by decide +kernel) rfl) ?_
    refine Eq.trans (rl_iconst (c := 5) (k := nI 5) (by decide +kernel) (by decide)) ?_
    refine Eq.trans (rl_icge (o := 22) 107 (by decide +kernel) (by decide)) ?_
    rw [if_pos (nI_lt (by omega) (by omega))]
    refine Eq.trans (rl_aloadn (j := 0) (by decide +kernel) rfl) ?_
    refine Eq.trans (cy_getP (ix := 19) (ci := 5) (j := 3) (by decide +kernel) (by decide +kernel) (by decide +kernel) (ck13 hn) a13 hT) ?_
    refine Eq.trans (rl_iloadn (j := 1) (by decide +kernel) rfl) ?_
    refine Eq.trans (cy_new (ix := 17) (ci := 7) (n := 2) (by decide +kernel) (by decide +kernel) (by decide +kernel) h23) ?_
    refine Eq.trans (rl_dup (by decide +kernel) rfl) ?_
    refine Eq.trans (cy_inv (ix := 40) (y := 64) (o := 7) (k := 3) (by decide +kernel) (by decide +kernel) (Or.inr rfl) (by decide +kernel) (by decide +kernel) ⟨rfl, rfl⟩ rfl k23 a23 (c64 (d := d))) ?_
    refine Eq.trans (cy_aast (ci := 7) (n := 5) (by decide +kernel) (ka15 hn) (by omega) (by omega) (by decide) k23 (by omega)) ?_
    refine Eq.trans (rl_iinc (j := 1) (c := 1) (k := nI 1) (by decide +kernel) (by decide) rfl rfl) ?_
    refine Eq.trans (rl_goto (o := -21) 83 (by decide +kernel) (by decide)) ?_
    rw [nI_add]
    rfl
theorem l33m (hn : n < 12) : ∀ r k c p q T, k + r = 16 → c = am_nb n + (24 + 2 * k) → T (13, n, 0) 6 = some (17, n, 0) → ∃ c' p' q', am_rn (am_ev (d + 1)) 33 109 [some (am_P (13, n, 0)), some (am_I (nI k))] [] M (am_Y T c p q) = some (.inl none, M, am_Y (tM n r k T) c' p' q') ∧ c' = am_nb n + 56 ∧ p' = p + 2 * r ∧ q' = q + 18 * r := by
  intro r
  induction r with
  | zero =>
    intro k c p q T hk hc hT
    obtain rfl : k = 16 := by omega
    refine ⟨c, p, q, ?_, by omega, rfl, rfl⟩
    refine Eq.trans (rl_iloadn (j := 1) (by decide +kernel) rfl) ?_
    refine Eq.trans (rl_bipush (c := 16) (k := nI 16) (by decide +kernel) (by decide)) ?_
    refine Eq.trans (rl_icge (o := 22) 134 (by decide +kernel) (by decide)) ?_
    rw [if_neg (nI_nlt (by omega) (by omega))]
    exact rl_ret (by decide +kernel) rfl
  | succ r ih =>
    intro k c p q T hk hc hT
    have h24 := nl24 hn (show k < 16 by omega) hc
    have k24 := ck24 hn (show k < 16 by omega)
    have a24 : am_ad (24, n, k) < c + 1 := by rw [h24.2.2.1]; omega
    have a13 : am_ad (13, n, 0) < c := by show am_nb n < c; omega
    have a17 : am_ad (17, n, 0) < c := by show am_nb n + 4 < c; omega
    obtain ⟨c', p', q', e1, e2, e3, e4⟩ := ih (k + 1) (c + 1 + 1) (p + 1 + 1) (q + 10 + 8) (am_setT (am_setT T (24, n, k) 9 (some (25, n, k))) (17, n, 0) k (some (24, n, k))) (by omega) (by omega) ((sT_t (by decide)).trans ((sT_t (by decide)).trans hT))
    refine ⟨c', p', q', ?_, e2, by omega, by omega⟩
    refine Eq.trans ?_ e1
    refine Eq.trans (rl_iloadn (j := 1) (by decide +kernel) rfl) ?_
    refine Eq.trans (rl_bipush (c := 16) (k := nI 16) (by decide +kernel) (by decide)) ?_
    refine Eq.trans (rl_icge (o := 22) 134 (by decide +kernel) (by decide)) ?_
    rw [if_pos (nI_lt (by omega) (by omega))]
    refine Eq.trans (rl_aloadn (j := 0) (by decide +kernel) rfl) ?_
    refine Eq.trans (cy_getP (ix := 29) (ci := 5) (j := 6) (by decide +kernel) (by decide +kernel) (by decide +kernel) (ck13 hn) a13 hT) ?_
    refine Eq.trans (rl_iloadn (j := 1) (by decide +kernel) rfl) ?_
    refine Eq.trans (cy_new (ix := 27) (ci := 4) (n := 10) (by decide +kernel) (by decide +kernel) (by decide +kernel) h24) ?_
    refine Eq.trans (rl_dup (by decide +kernel) rfl) ?_
    refine Eq.trans (cy_inv (ix := 41) (y := 25) (o := 4) (k := 3) (by decide +kernel) (by decide +kernel) (Or.inr rfl) (by decide +kernel) (by decide +kernel) ⟨rfl, rfl⟩ rfl k24 a24 (c25 (d := d) hn (by omega) (by omega))) ?_
    refine Eq.trans (cy_aast (ci := 4) (n := 16) (by decide +kernel) (ka17 hn) (by omega) (by omega) (by decide) k24 (by omega)) ?_
    refine Eq.trans (rl_iinc (j := 1) (c := 1) (k := nI 1) (by decide +kernel) (by decide) rfl rfl) ?_
    refine Eq.trans (rl_goto (o := -22) 109 (by decide +kernel) (by decide)) ?_
    rw [nI_add]
    rfl
end AmMn
