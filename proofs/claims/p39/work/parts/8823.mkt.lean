/-! A NETWORK'S REFERENCES ARE WHERE THEY SHOULD BE -/
section AmMt
variable {T : am_T} {n : Nat}
theorem T0_no {t m x j : Nat} (h : am_ok (t, m, x) = false) : am_T0 (t, m, x) j = none := if_neg (by rw [h]; decide)
theorem okN0 {t m x : Nat} (h : am_ok (t, m, x) = (decide (m < 12) && (x == 0))) (hx : x ≠ 0) : am_ok (t, m, x) = false := by
  rw [h, beq_false_of_ne hx, Bool.and_false]
theorem oke0 {t m x K : Nat} (h : am_ok (t, m, x) = (decide (m < 12) && decide (x < K))) (hx : ¬ x < K) : am_ok (t, m, x) = false := by
  rw [h, decide_eq_false hx, Bool.and_false]
theorem tA_o {l : am_L} {j : Nat} (h : l ≠ (13, n, 0)) : tA n T l j = T l j := by
  unfold tA
  rw [sT_ne (fun q => h q.1), sT_ne (fun q => h q.1), sT_ne (fun q => h q.1), sT_ne (fun q => h q.1), sT_ne (fun q => h q.1), sT_ne (fun q => h q.1)]
theorem tA_v {j : Nat} (hn : n < 12) (hT : T (13, n, 0) j = none) : tA n T (13, n, 0) j = am_T0 (13, n, 0) j := by
  rw [am_T0_eq (am_okN rfl hn)]
  unfold tA
  by_cases h9 : j = 9
  · subst h9; exact sT_eq
  rw [sT_ne (fun q => h9 q.2)]
  by_cases h8 : j = 8
  · subst h8; exact sT_eq
  rw [sT_ne (fun q => h8 q.2)]
  by_cases h6 : j = 6
  · subst h6; exact sT_eq
  rw [sT_ne (fun q => h6 q.2)]
  by_cases h4 : j = 4
  · subst h4; exact sT_eq
  rw [sT_ne (fun q => h4 q.2)]
  by_cases h3 : j = 3
  · subst h3; exact sT_eq
  rw [sT_ne (fun q => h3 q.2)]
  by_cases h2 : j = 2
  · subst h2; exact sT_eq
  rw [sT_ne (fun q => h2 q.2), hT]
  show none = (match j with | 2 => some ((14, n, 0) : am_L) | 3 => some (15, n, 0) | 4 => some (16, n, 0) | 6 => some (17, n, 0) | 8 => some (18, n, 0) | 9 => some (20, n, 0) | _ => none)
  split <;> first | rfl | contradiction
theorem tN_v (hn : n < 12) (hT : ∀ t x j, 13 ≤ t → t ≤ 25 → T (t, n, x) j = none) : tN n T = fun l j => if 13 ≤ l.1 ∧ l.1 ≤ 25 ∧ l.2.1 = n then am_T0 l j else T l j := by
  funext l j
  obtain ⟨t, m, x⟩ := l
  dsimp only
  unfold tN
  rw [tM_v, tR_v, tC_v]
  dsimp only
  by_cases hin : 13 ≤ t ∧ t ≤ 25 ∧ m = n
  · rw [if_pos hin]
    obtain ⟨g1, g2, rfl⟩ := hin
    have p0 : ∀ s, t ≠ s → ((t, m, x) : am_L) ≠ (s, m, 0) := fun s h q => h (pl_e q).1
    have hT' := hT t x j g1 g2
    have ht : t = 13 ∨ t = 14 ∨ t = 15 ∨ t = 16 ∨ t = 17 ∨ t = 18 ∨ t = 19 ∨ t = 20 ∨ t = 21 ∨ t = 22 ∨ t = 23 ∨ t = 24 ∨ t = 25 := by omega
    have hno : t ≠ 13 → t ≠ 14 → t ≠ 15 → t ≠ 17 → t ≠ 21 → t ≠ 24 → (if t = 24 ∧ m = m ∧ 0 ≤ x ∧ x < 0 + 16 ∧ j = 9 then some (25, m, x) else if ((t, m, x) : am_L) = (17, m, 0) ∧ 0 ≤ j ∧ j < 0 + 16 then some (24, m, j) else if ((t, m, x) : am_L) = (15, m, 0) ∧ 0 ≤ j ∧ j < 0 + 5 then some (23, m, j) else if t = 21 ∧ m = m ∧ 0 ≤ x ∧ x < 0 + 6 ∧ j = 7 then some (22, m, x) else if ((t, m, x) : am_L) = (14, m, 0) ∧ 0 ≤ j ∧ j < 0 + 6 then some (21, m, j) else tA m T (t, m, x) j) = none := by
      intro h13 h14 h15 h17 h21 h24
      rw [if_neg (fun q => h24 q.1), if_neg (fun q => p0 17 h17 q.1), if_neg (fun q => p0 15 h15 q.1), if_neg (fun q => h21 q.1), if_neg (fun q => p0 14 h14 q.1), tA_o (p0 13 h13), hT']
    have n0 : ∀ (t x j : Nat), am_T1 (t, m, x) j = none → am_T0 (t, m, x) j = none := fun t x j h => by
      unfold am_T0
      rw [h]
      exact ite_self _
    rcases ht with rfl | rfl | rfl | rfl | rfl | rfl | rfl | rfl | rfl | rfl | rfl | rfl | rfl
    · rw [if_neg (fun q => absurd q.1 (by decide)), if_neg (fun q => p0 17 (by decide) q.1), if_neg (fun q => p0 15 (by decide) q.1), if_neg (fun q => absurd q.1 (by decide)), if_neg (fun q => p0 14 (by decide) q.1)]
      by_cases hx : x = 0
      · subst hx
        exact tA_v hn hT'
      · rw [tA_o (fun q => hx (pl_e q).2.2), hT', T0_no (okN0 rfl hx)]
    · rw [if_neg (fun q => absurd q.1 (by decide)), if_neg (fun q => p0 17 (by decide) q.1), if_neg (fun q => p0 15 (by decide) q.1), if_neg (fun q => absurd q.1 (by decide)), tA_o (p0 13 (by decide)), hT']
      by_cases hx : x = 0
      · subst hx
        rw [am_T0_eq (am_okN rfl hn)]
        show _ = (if j < 6 then some (21, m, j) else none)
        by_cases hj : j < 6
        · rw [if_pos ⟨rfl, Nat.zero_le _, by omega⟩, if_pos hj]
        · rw [if_neg (fun q => hj (by omega)), if_neg hj]
      · rw [if_neg (fun q => hx (pl_e q.1).2.2), T0_no (okN0 rfl hx)]
    · rw [if_neg (fun q => absurd q.1 (by decide)), if_neg (fun q => p0 17 (by decide) q.1)]
      have hr : (if (15 : Nat) = 21 ∧ m = m ∧ 0 ≤ x ∧ x < 0 + 6 ∧ j = 7 then some ((22, m, x) : am_L) else if ((15, m, x) : am_L) = (14, m, 0) ∧ 0 ≤ j ∧ j < 0 + 6 then some (21, m, j) else tA m T (15, m, x) j) = none := by
        rw [if_neg (fun q => absurd q.1 (by decide)), if_neg (fun q => p0 14 (by decide) q.1), tA_o (p0 13 (by decide)), hT']
      rw [hr]
      by_cases hx : x = 0
      · subst hx
        rw [am_T0_eq (am_okN rfl hn)]
        show _ = (if j < 5 then some (23, m, j) else none)
        by_cases hj : j < 5
        · rw [if_pos ⟨rfl, Nat.zero_le _, by omega⟩, if_pos hj]
        · rw [if_neg (fun q => hj (by omega)), if_neg hj]
      · rw [if_neg (fun q => hx (pl_e q.1).2.2), T0_no (okN0 rfl hx)]
    · exact (hno (by decide) (by decide) (by decide) (by decide) (by decide) (by decide)).trans (n0 _ _ _ rfl).symm
    · rw [if_neg (fun q => absurd q.1 (by decide))]
      have hr : (if ((17, m, x) : am_L) = (15, m, 0) ∧ 0 ≤ j ∧ j < 0 + 5 then some ((23, m, j) : am_L) else if (17 : Nat) = 21 ∧ m = m ∧ 0 ≤ x ∧ x < 0 + 6 ∧ j = 7 then some ((22, m, x) : am_L) else if ((17, m, x) : am_L) = (14, m, 0) ∧ 0 ≤ j ∧ j < 0 + 6 then some (21, m, j) else tA m T (17, m, x) j) = none := by
        rw [if_neg (fun q => p0 15 (by decide) q.1), if_neg (fun q => absurd q.1 (by decide)), if_neg (fun q => p0 14 (by decide) q.1), tA_o (p0 13 (by decide)), hT']
      rw [hr]
      by_cases hx : x = 0
      · subst hx
        rw [am_T0_eq (am_okN rfl hn)]
        show _ = (if j < 16 then some (24, m, j) else none)
        by_cases hj : j < 16
        · rw [if_pos ⟨rfl, Nat.zero_le _, by omega⟩, if_pos hj]
        · rw [if_neg (fun q => hj (by omega)), if_neg hj]
      · rw [if_neg (fun q => hx (pl_e q.1).2.2), T0_no (okN0 rfl hx)]
    · exact (hno (by decide) (by decide) (by decide) (by decide) (by decide) (by decide)).trans (n0 _ _ _ rfl).symm
    · exact (hno (by decide) (by decide) (by decide) (by decide) (by decide) (by decide)).trans (n0 _ _ _ rfl).symm
    · exact (hno (by decide) (by decide) (by decide) (by decide) (by decide) (by decide)).trans (n0 _ _ _ rfl).symm
    · rw [if_neg (fun q => absurd q.1 (by decide)), if_neg (fun q => p0 17 (by decide) q.1), if_neg (fun q => p0 15 (by decide) q.1)]
      have hr : (if ((21, m, x) : am_L) = (14, m, 0) ∧ 0 ≤ j ∧ j < 0 + 6 then some ((21, m, j) : am_L) else tA m T (21, m, x) j) = none := by
        rw [if_neg (fun q => p0 14 (by decide) q.1), tA_o (p0 13 (by decide)), hT']
      rw [hr]
      by_cases hx : x < 6
      · by_cases hj : j = 7
        · subst hj
          rw [if_pos ⟨rfl, rfl, Nat.zero_le _, by omega, rfl⟩, am_T0_eq (am_oke rfl hn hx)]
          rfl
        · rw [if_neg (fun q => hj q.2.2.2.2), am_T0_eq (am_oke rfl hn hx)]
          show none = (match j with | 7 => some ((22, m, x) : am_L) | _ => none)
          split <;> first | rfl | contradiction
      · rw [if_neg (fun q => hx (by omega)), T0_no (oke0 rfl hx)]
    · exact (hno (by decide) (by decide) (by decide) (by decide) (by decide) (by decide)).trans (n0 _ _ _ rfl).symm
    · exact (hno (by decide) (by decide) (by decide) (by decide) (by decide) (by decide)).trans (n0 _ _ _ rfl).symm
    · skip
      have hr : (if ((24, m, x) : am_L) = (17, m, 0) ∧ 0 ≤ j ∧ j < 0 + 16 then some ((24, m, j) : am_L) else if ((24, m, x) : am_L) = (15, m, 0) ∧ 0 ≤ j ∧ j < 0 + 5 then some ((23, m, j) : am_L) else if (24 : Nat) = 21 ∧ m = m ∧ 0 ≤ x ∧ x < 0 + 6 ∧ j = 7 then some ((22, m, x) : am_L) else if ((24, m, x) : am_L) = (14, m, 0) ∧ 0 ≤ j ∧ j < 0 + 6 then some (21, m, j) else tA m T (24, m, x) j) = none := by
        rw [if_neg (fun q => p0 17 (by decide) q.1), if_neg (fun q => p0 15 (by decide) q.1), if_neg (fun q => absurd q.1 (by decide)), if_neg (fun q => p0 14 (by decide) q.1), tA_o (p0 13 (by decide)), hT']
      rw [hr]
      by_cases hx : x < 16
      · by_cases hj : j = 9
        · subst hj
          rw [if_pos ⟨rfl, rfl, Nat.zero_le _, by omega, rfl⟩, am_T0_eq (am_oke rfl hn hx)]
          rfl
        · rw [if_neg (fun q => hj q.2.2.2.2), am_T0_eq (am_oke rfl hn hx)]
          show none = (match j with | 9 => some ((25, m, x) : am_L) | _ => none)
          split <;> first | rfl | contradiction
      · rw [if_neg (fun q => hx (by omega)), T0_no (oke0 rfl hx)]
    · exact (hno (by decide) (by decide) (by decide) (by decide) (by decide) (by decide)).trans (n0 _ _ _ rfl).symm
  · rw [if_neg hin]
    have p0 : ∀ s, 13 ≤ s → s ≤ 25 → ((t, m, x) : am_L) ≠ (s, n, 0) := fun s h1 h2 q => by
      obtain ⟨rfl, rfl, _⟩ := pl_e q
      exact hin ⟨h1, h2, rfl⟩
    rw [if_neg (fun q => hin (by omega)), if_neg (fun q => p0 17 (by decide) (by decide) q.1), if_neg (fun q => p0 15 (by decide) (by decide) q.1), if_neg (fun q => hin (by omega)), if_neg (fun q => p0 14 (by decide) (by decide) q.1), tA_o (p0 13 (by decide) (by decide))]
end AmMt
