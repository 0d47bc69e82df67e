/-! ALL REFERENCES ARE WHERE THEY SHOULD BE -/
section AmMe
variable {T : am_T} {l : am_L} {j : Nat}
theorem tS3_v (h3 : l ≠ (3, 0, 0)) : tS3 l j = if 13 ≤ l.1 ∧ l.1 ≤ 25 ∧ l.2.1 < 3 then am_T0 l j else none := by
  unfold tS3
  rw [sT_ne (fun q => h3 q.1)]
  unfold tNf tS2
  rw [sT_ne (fun q => h3 q.1)]
  unfold tNf tS1
  rw [sT_ne (fun q => h3 q.1)]
  unfold tNf tZ
  by_cases h : 13 ≤ l.1 ∧ l.1 ≤ 25 ∧ l.2.1 < 3
  · rw [if_pos h]
    by_cases h2 : 13 ≤ l.1 ∧ l.1 ≤ 25 ∧ l.2.1 = 2
    · rw [if_pos h2]
    rw [if_neg h2]
    by_cases h1 : 13 ≤ l.1 ∧ l.1 ≤ 25 ∧ l.2.1 = 1
    · rw [if_pos h1]
    rw [if_neg h1, if_pos (by omega)]
  · rw [if_neg h, if_neg (by omega), if_neg (by omega), if_neg (by omega)]
theorem tS4_v (h3 : l ≠ (3, 0, 0)) : tS4 l j = if 13 ≤ l.1 ∧ l.1 ≤ 25 ∧ l.2.1 < 12 then am_T0 l j else if l = (5, 0, 0) ∧ j < 9 then some (13, j + 3, 0) else if l = (4, 0, 0) ∧ j = 0 then some (5, 0, 0) else none := by
  unfold tS4
  rw [sT_ne (fun q => h3 q.1), tH_v]
  by_cases h : 13 ≤ l.1 ∧ l.1 ≤ 25 ∧ l.2.1 < 12
  · rw [if_pos h]
    by_cases h2 : 13 ≤ l.1 ∧ l.1 ≤ 25 ∧ 0 + 3 ≤ l.2.1 ∧ l.2.1 < 0 + 3 + 9
    · rw [if_pos h2]
    rw [if_neg h2, if_neg (fun q => by have := h.1; rw [q.1] at this; exact absurd this (by decide)), sT_ne (fun q => by have := h.1; rw [q.1] at this; exact absurd this (by decide)), tS3_v h3, if_pos (by omega)]
  · rw [if_neg h, if_neg (by omega)]
    by_cases h5 : l = ((5, 0, 0) : am_L) ∧ j < 9
    · rw [if_pos h5, if_pos ⟨h5.1, Nat.zero_le _, by omega⟩]
    rw [if_neg h5, if_neg (fun q => h5 ⟨q.1, by omega⟩)]
    by_cases h4 : l = ((4, 0, 0) : am_L) ∧ j = 0
    · rw [if_pos h4, h4.1, h4.2]; exact sT_eq
    rw [if_neg h4, sT_ne h4, tS3_v h3, if_neg (by omega)]
theorem tS8_v (h3 : l ≠ (3, 0, 0)) : tS8 l j = if 13 ≤ l.1 ∧ l.1 ≤ 25 ∧ l.2.1 < 12 then am_T0 l j else if l = (5, 0, 0) ∧ j < 9 then some (13, j + 3, 0) else if l = (4, 0, 0) ∧ j = 0 then some (5, 0, 0) else if l = (10, 0, 0) ∧ j < 20 then some (11, 0, j) else if l = (8, 0, 0) ∧ j = 2 then some (10, 0, 0) else if l = (8, 0, 0) ∧ j = 0 then some (9, 0, 0) else none := by
  unfold tS8
  rw [sT_ne (fun q => h3 q.1)]
  unfold tS7
  rw [sT_ne (fun q => h3 q.1), tQ_v]
  have e6 : tS6 l j = tS4 l j := by
    unfold tS6
    rw [sT_ne (fun q => h3 q.1)]
    unfold tS5
    rw [sT_ne (fun q => h3 q.1)]
  have nl : ∀ (l' : am_L), l'.1 < 13 → l = l' → ¬ (13 ≤ l.1 ∧ l.1 ≤ 25 ∧ l.2.1 < 12) := fun l' h e q => by rw [e] at q; omega
  by_cases h10 : l = ((10, 0, 0) : am_L) ∧ j < 20
  · rw [if_pos ⟨h10.1, Nat.zero_le _, by omega⟩, if_neg (nl _ (by decide) h10.1), if_neg (fun q => pl_t (by decide) (h10.1.symm.trans q.1)), if_neg (fun q => pl_t (by decide) (h10.1.symm.trans q.1)), if_pos h10]
  rw [if_neg (fun q => h10 ⟨q.1, by omega⟩)]
  by_cases h2 : l = ((8, 0, 0) : am_L) ∧ j = 2
  · rw [if_neg (nl _ (by decide) h2.1), if_neg (fun q => pl_t (by decide) (h2.1.symm.trans q.1)), if_neg (fun q => pl_t (by decide) (h2.1.symm.trans q.1)), if_neg h10, if_pos h2, h2.1, h2.2]
    exact sT_eq
  rw [sT_ne h2]
  by_cases h0 : l = ((8, 0, 0) : am_L) ∧ j = 0
  · rw [if_neg (nl _ (by decide) h0.1), if_neg (fun q => pl_t (by decide) (h0.1.symm.trans q.1)), if_neg (fun q => pl_t (by decide) (h0.1.symm.trans q.1)), if_neg h10, if_neg h2, if_pos h0, h0.1, h0.2]
    exact sT_eq
  rw [sT_ne h0, e6, tS4_v h3, if_neg h10, if_neg h2, if_neg h0]
theorem tS8_3 : tS8 (3, 0, 0) j = am_T0 (3, 0, 0) j := by
  rw [am_T0_eq ck3.1]
  unfold tS8
  by_cases h9 : j = 9
  · subst h9; exact sT_eq
  rw [sT_ne (fun q => h9 q.2)]
  unfold tS7
  by_cases h7 : j = 7
  · subst h7; exact sT_eq
  rw [sT_ne (fun q => h7 q.2), tQ_v, if_neg (fun q => pl_t (by decide) q.1), sT_t (by decide), sT_t (by decide)]
  unfold tS6
  by_cases h6 : j = 6
  · subst h6; exact sT_eq
  rw [sT_ne (fun q => h6 q.2)]
  unfold tS5
  by_cases h5 : j = 5
  · subst h5; exact sT_eq
  rw [sT_ne (fun q => h5 q.2)]
  unfold tS4
  by_cases h4 : j = 4
  · subst h4; exact sT_eq
  rw [sT_ne (fun q => h4 q.2), tH_v, if_neg (fun q => absurd q.1 (by decide)), if_neg (fun q => pl_t (by decide) q.1), sT_t (by decide)]
  unfold tS3
  by_cases h2 : j = 2
  · subst h2; exact sT_eq
  rw [sT_ne (fun q => h2 q.2), tNf_o (Or.inl (by decide))]
  unfold tS2
  by_cases h1 : j = 1
  · subst h1; exact sT_eq
  rw [sT_ne (fun q => h1 q.2), tNf_o (Or.inl (by decide))]
  unfold tS1
  by_cases h0 : j = 0
  · subst h0; exact sT_eq
  rw [sT_ne (fun q => h0 q.2), tNf_o (Or.inl (by decide))]
  show none = (match j with | 0 => some ((13, 0, 0) : am_L) | 1 => some (13, 1, 0) | 2 => some (13, 2, 0) | 4 => some (4, 0, 0) | 5 => some (6, 0, 0) | 6 => some (7, 0, 0) | 7 => some (8, 0, 0) | 9 => some (12, 0, 0) | _ => none)
  split <;> first | rfl | contradiction
theorem T0_n1 (h : am_T1 l j = none) : am_T0 l j = none := by
  unfold am_T0
  rw [h]
  exact ite_self _
theorem ok_of_T0 {v : am_L} (h : am_T0 l j = some v) : am_ok l = true ∧ am_T1 l j = some v := by
  unfold am_T0 at h
  by_cases hk : am_ok l = true
  · rw [if_pos hk] at h; exact ⟨hk, h⟩
  · rw [if_neg hk] at h; exact absurd h (by simp)
/-- a place of the first kinds is at (0, 0) -/
theorem ok_00 {t m x : Nat} (h : am_ok (t, m, x) = (m == 0 && x == 0)) (hk : am_ok (t, m, x) = true) : ((t, m, x) : am_L) = (t, 0, 0) := by
  rw [h] at hk
  simp only [Bool.and_eq_true, beq_iff_eq] at hk
  rw [hk.1, hk.2]
theorem tS_all : tS8 = am_T0 := by
  funext l j
  by_cases h3 : l = (3, 0, 0)
  · subst h3; exact tS8_3
  rw [tS8_v h3]
  by_cases hN : 13 ≤ l.1 ∧ l.1 ≤ 25 ∧ l.2.1 < 12
  · rw [if_pos hN]
  rw [if_neg hN]
  by_cases h5 : l = ((5, 0, 0) : am_L) ∧ j < 9
  · obtain ⟨rfl, hj⟩ := h5
    rw [if_pos ⟨rfl, hj⟩, am_T0_eq ka5.1]
    exact (if_pos hj).symm
  rw [if_neg h5]
  by_cases h4 : l = ((4, 0, 0) : am_L) ∧ j = 0
  · obtain ⟨rfl, rfl⟩ := h4
    rw [if_pos ⟨rfl, rfl⟩, am_T0_eq ck4.1]
    rfl
  rw [if_neg h4]
  by_cases h10 : l = ((10, 0, 0) : am_L) ∧ j < 20
  · obtain ⟨rfl, hj⟩ := h10
    rw [if_pos ⟨rfl, hj⟩, am_T0_eq ka10.1]
    exact (if_pos hj).symm
  rw [if_neg h10]
  by_cases h2 : l = ((8, 0, 0) : am_L) ∧ j = 2
  · obtain ⟨rfl, rfl⟩ := h2
    rw [if_pos ⟨rfl, rfl⟩, am_T0_eq ck8.1]
    rfl
  rw [if_neg h2]
  by_cases h0 : l = ((8, 0, 0) : am_L) ∧ j = 0
  · obtain ⟨rfl, rfl⟩ := h0
    rw [if_pos ⟨rfl, rfl⟩, am_T0_eq ck8.1]
    rfl
  rw [if_neg h0]
  cases hv : am_T0 l j with
  | none => rfl
  | some v =>
    exfalso
    obtain ⟨hk, h1⟩ := ok_of_T0 hv
    obtain ⟨t, m, x⟩ := l
    have h12 : ∀ s, t = s → 13 ≤ s → s ≤ 25 → am_ok (s, m, x) = (decide (m < 12) && (am_ok (s, 0, x))) → False := fun s e g1 g2 he => by
      subst e
      rw [he] at hk
      simp only [Bool.and_eq_true, decide_eq_true_eq] at hk
      exact hN ⟨g1, g2, hk.1⟩
    unfold am_T1 at h1
    dsimp only at h1
    split at h1
    · exact h3 (ok_00 rfl hk)
    · have e := ok_00 rfl hk
      split at h1
      · exact h4 ⟨e, rfl⟩
      · exact absurd h1 (by simp)
    · have e := ok_00 rfl hk
      by_cases hj : j < 9
      · exact h5 ⟨e, hj⟩
      · rw [if_neg hj] at h1; exact absurd h1 (by simp)
    · have e := ok_00 rfl hk
      split at h1
      · exact h0 ⟨e, rfl⟩
      · exact h2 ⟨e, rfl⟩
      · exact absurd h1 (by simp)
    · have e := ok_00 rfl hk
      by_cases hj : j < 20
      · exact h10 ⟨e, hj⟩
      · rw [if_neg hj] at h1; exact absurd h1 (by simp)
    · exact h12 13 rfl (by decide) (by decide) rfl
    · exact h12 14 rfl (by decide) (by decide) rfl
    · exact h12 15 rfl (by decide) (by decide) rfl
    · exact h12 17 rfl (by decide) (by decide) rfl
    · exact h12 21 rfl (by decide) (by decide) rfl
    · exact h12 24 rfl (by decide) (by decide) rfl
    · exact absurd h1 (by simp)
end AmMe
