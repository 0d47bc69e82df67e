/-! ONE COMMAND OF A TEXT, WHATEVER IT IS: THE REFERENCE -/
def ltr (k : Nat) : Nat := if k = 6 then 100 else if k = 4 then 101 else if k = 7 then 104 else if k = 2 then 113 else if k = 5 then 115 else 119
section Km7
variable {d : Nat} {M M' M0 : am_M} {w : am_W4} {tx : List Int32}
theorem p1_k {k p k' : Nat} {v : Nat × Nat × Nat} (h : (p_1 tx k p).2 = some (k', v)) : k' = k := by
  unfold p_1 at h
  split at h
  · exact absurd h (by simp)
  · exact (Prod.mk.inj (Option.some.inj h)).1.symm
theorem p2_k {k p k' : Nat} {v : Nat × Nat × Nat} (h : (p_2 tx k p).2 = some (k', v)) : k' = k := by
  unfold p_2 at h
  split at h
  · exact absurd h (by simp)
  · unfold p_2a at h
    split at h
    · unfold p_2b at h
      split at h
      · exact absurd h (by simp)
      · exact (Prod.mk.inj (Option.some.inj h)).1.symm
    · exact absurd h (by simp)
theorem p3_k {p k' : Nat} {v : Nat × Nat × Nat} (h : (p_3 tx p).2 = some (k', v)) : k' = 2 := by
  unfold p_3 at h
  split at h
  · exact absurd h (by simp)
  · unfold p_3a at h
    split at h
    · unfold p_3b at h
      split at h
      · exact absurd h (by simp)
      · unfold p_3c at h
        split at h
        · unfold p_3d at h
          split at h
          · exact absurd h (by simp)
          · exact (Prod.mk.inj (Option.some.inj h)).1.symm
        · exact absurd h (by simp)
    · exact absurd h (by simp)
theorem p4_k {p k' : Nat} {v : Nat × Nat × Nat} (h : (p_4 tx p).2 = some (k', v)) : k' = 5 := by
  unfold p_4 at h
  split at h
  · exact absurd h (by simp)
  · unfold p_4a at h
    split at h
    · unfold p_4b at h
      split at h
      · exact absurd h (by simp)
      · unfold p_4c at h
        split at h
        · unfold p_4d at h
          split at h
          · exact absurd h (by simp)
          · exact (Prod.mk.inj (Option.some.inj h)).1.symm
        · exact absurd h (by simp)
    · exact absurd h (by simp)
def mp6 (M : am_M) (w : am_W4) (r : Option am_R) (c : Pc) : Prop := ∃ M', r = some (.inl (some (am_I (nI c.2.isSome.toNat))), M', am_Z w) ∧ M' (30, 0, 0) 11 = nI c.1 ∧ (∀ k x y z, c.2 = some (k, x, y, z) → M' (30, 0, 0) 12 = nI (ltr k) ∧ k ≤ 7 ∧ k ≠ 0 ∧ k ≠ 1 ∧ M' (38, 0, 0) 0 = nI x ∧ (k ≠ 6 → k ≠ 7 → M' (38, 0, 0) 1 = nI y) ∧ (k = 2 ∨ k = 5 → M' (38, 0, 0) 2 = nI z)) ∧ ∀ l' j, l' ≠ (38, 0, 0) → ¬ (l' = (30, 0, 0) ∧ (j = 11 ∨ j = 12)) → M' l' j = M l' j
theorem mpO.six {r : Option am_R} {c : Pc} {n : Nat} (h : mpO (am_set M (30, 0, 0) 12 (nI n)) w r c) (hk : ∀ k v, c.2 = some (k, v) → ltr k = n ∧ k ≤ 7 ∧ k ≠ 0 ∧ k ≠ 1) : mp6 M w r c := by
  obtain ⟨M', h1, h2, h3, h4⟩ := h
  refine ⟨M', h1, h2, fun k x y z q => ?_, fun l' j q1 q2 => (h4 l' j q1 (fun q => q2 ⟨q.1, Or.inl q.2⟩)).trans (as_ne (fun q => q2 ⟨q.1, Or.inr q.2⟩))⟩
  obtain ⟨g1, g2, g3, g4⟩ := hk k _ q
  exact ⟨((h4 _ _ (pl_t (by decide)) (fun q => absurd q.2 (by decide))).trans (as_eq _ _ _ _)).trans (by rw [g1]), g2, g3, g4, h3 k x y z q⟩
end Km7
