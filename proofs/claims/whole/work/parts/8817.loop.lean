/-! THE LAW'S LOOP -/
theorem goO.ite {i B : Nat} {M : am_M} {w : am_W4} {p : Prop} [Decidable p] {r1 r2 : Option am_R} (h1 : goO i B M w r1) (h2 : goO i B M w r2) : goO i B M w (if p then r1 else r2) := by
  by_cases h : p
  · rw [if_pos h]; exact h1
  · rw [if_neg h]; exact h2
theorem lwI.mono {B B' : Nat} {M : am_M} (h : lwI B M) (hB : B ≤ B') : lwI B' M := by
  obtain ⟨a, hs, sv, tx, R, e, ln, hS⟩ := h
  exact ⟨a, hs, sv, tx, R, e, ln, hS.mono hB⟩
theorem lw_go {L i : Nat} (h : i + 4 ≤ L) (hL : L ≤ 2048) : ¬ nI L - nI 4 < nI i := by
  rw [pk_sub (by omega)]
  exact nI_nlt (by omega) (by omega)
theorem lw_end {L i : Nat} (h : L < i + 4) (hL : L ≤ 2048) (hi : i ≤ 4096) : nI L - nI 4 < nI i := by
  by_cases h4 : 4 ≤ L
  · rw [pk_sub h4]
    exact nI_lt (by omega) (by omega)
  · rw [Int32.lt_iff_toInt_lt, nI_toInt (by omega)]
    have : (nI L - nI 4).toInt < 0 := by
      have h5 : L = 0 ∨ L = 1 ∨ L = 2 ∨ L = 3 := by omega
      rcases h5 with rfl | rfl | rfl | rfl <;> decide
    omega
theorem go_28 {i L B : Nat} {M : am_M} {w : am_W4} {x6 x7 x8 : Option am_V} (hL : M (0, 0, 1) 0 = nI L) (hi : i + 4 ≤ L) (hL2 : L ≤ 2048) (hB0 : 1000 ≤ B) (hB : B < 900000000) (hI : lwI B M) : goO i B M w (am_rn (am_ev 12) 227 28 (L9 (nI i) x6 x7 x8) [] M (am_Z w)) := by
  rw [b227_28, hL, if_neg (lw_go hi hL2), if_pos (by rw [nI_clamp (by omega), am_inT (by omega) (by omega)]; trivial)]
  refine goO.ite (go_204 hL hi hL2 hB0 hB hI) ?_
  refine goO.ite (go_284 hL hi hL2 hB0 hB hI) ?_
  refine goO.ite (go_352 hL hi hL2 hB0 hB hI) ?_
  refine goO.ite (go_432 hL hi hL2 hB0 hB hI) ?_
  refine goO.ite (go_500 hL hi hL2 hB0 hB hI) ?_
  refine goO.ite (go_568 hL hi hL2 hB0 hB hI) ?_
  refine goO.ite (go_648 hL hi hL2 hB0 hB hI) ?_
  refine goO.ite (go_704 hL hi hL2 hB0 hB hI) ?_
  refine goO.ite (go_760 hL hi hL2 hB0 hB hI) ?_
  refine goO.ite (go_828 hL hi hL2 hB0 hB hI) ?_
  refine goO.ite (go_896 hL hi hL2 hB0 hB hI) ?_
  refine goO.ite (go_952 hL hi hL2 hB0 hB hI) ?_
  refine goO.ite (go_1020 hL hi hL2 hB0 hB hI) ?_
  refine goO.ite (go_1088 hL hi hL2 hB0 hB hI) ?_
  refine goO.ite (go_1144 hL hi hL2 hB0 hB hI) ?_
  refine goO.ite (go_1212 hL hi hL2 hB0 hB hI) ?_
  refine goO.ite (go_1268 hL hi hL2 hB0 hB hI) ?_
  refine goO.ite (go_1352 hL hi hL2 hB0 hB hI) ?_
  refine goO.ite (go_1443 hL hi hL2 hB0 hB hI) ?_
  refine goO.ite (go_1511 hL hi hL2 hB0 hB hI) ?_
  refine goO.ite (go_1567 hL hi hL2 hB0 hB hI) ?_
  refine goO.ite (go_1623 hL hi hL2 hB0 hB hI) ?_
  refine goO.ite (go_1679 hB0 hB hI) ?_
  refine goO.ite (go_1692 hB0 hB hI) ?_
  refine goO.ite (go_1705 hL hi hL2 hB0 hB hI) ?_
  refine goO.ite (go_1763 hL hi hL2 hB0 hB hI) ?_
  refine goO.ite (go_1807 hB0 hB hI) ?_
  refine goO.ite (go_1820 hL hi hL2 hB0 hB hI) ?_
  refine goO.ite (go_1876 hL hi hL2 hB0 hB hI) ?_
  refine goO.ite (go_1932 hL hi hL2 hB0 hB hI) ?_
  refine goO.ite (go_1988 hB0 hB hI) ?_
  refine goO.ite (go_2054 hB0 hB hI) ?_
  refine goO.ite (go_2119 hL hi hL2 hB0 hB hI) ?_
  refine goO.ite (go_2175 hL hi hL2 hB0 hB hI) ?_
  refine goO.ite (go_2219 hB0 hB hI) ?_
  refine goO.ite (go_2232 hL hi hL2 hB0 hB hI) ?_
  exact ⟨x6, x7, x8, M, w, rfl, hI.mono (Nat.le_add_right _ _), fun _ _ _ => rfl, wB.rf w⟩
theorem lwl {L : Nat} (hL2 : L ≤ 2048) : ∀ n i B (M : am_M) (w : am_W4) (x6 x7 x8 : Option am_V), L < i + 4 * n → i ≤ L + 4 → lwI B M → 1000 ≤ B → B + 400000 * n < 900000000 → M (0, 0, 1) 0 = nI L → ∃ M' w', am_rn (am_ev 12) 227 28 (L9 (nI i) x6 x7 x8) [] M (am_Z w) = some (.inl (some (am_I (nI 1))), M', am_Z w') ∧ w'.1 ≤ w.1 + n ∧ w'.2.1 ≤ w.2.1 + 6 * n := by
  intro n
  induction n with
  | zero =>
    intro i B M w x6 x7 x8 h1 h2 hI h3 h4 hL
    refine ⟨M, w, ?_, Nat.le_refl _, Nat.le_refl _⟩
    rw [b227_28, hL, if_pos (lw_end (by omega) hL2 (by omega))]
  | succ n ih =>
    intro i B M w x6 x7 x8 h1 h2 hI h3 h4 hL
    by_cases hi : i + 4 ≤ L
    · obtain ⟨y6, y7, y8, M1, w1, e1, k1, k2, k3, k4⟩ := go_28 (x6 := x6) (x7 := x7) (x8 := x8) (w := w) hL hi hL2 h3 (by omega) hI
      obtain ⟨M2, w2, e2, q1, q2⟩ := ih (i + 4) (B + 400000) M1 w1 y6 y7 y8 (by omega) (by omega) k1 (by omega) (by omega) ((k2 _ _ rfl).trans hL)
      refine ⟨M2, w2, ?_, by omega, by omega⟩
      rw [e1, b227_2276, nI_add]
      exact e2
    · refine ⟨M, w, ?_, by omega, by omega⟩
      rw [b227_28, hL, if_pos (lw_end (by omega) hL2 (by omega))]
