/-! A NUMBER MODULO ANOTHER, OUT OF THE SCRIPT -/
section Kso
variable {d B : Nat} {M : am_M} {a : Nat → Nat} {w : am_W4} {x y z : Int32}
theorem k114 {n : Nat} (h0 : 0 < n) (hn : n < 1000) : ∃ k, k < n ∧ am_ev (d + 1) 114 [am_I x, am_I (nI n)] M (am_Z w) = some (.inl (some (am_I (nI k))), M, am_Z w) := by
  obtain ⟨k, hk, e⟩ := rem_b (x := x) h0 hn
  refine ⟨k, hk, ?_⟩
  rw [e114 (decide_eq_false (fun q => by have := (nI_eq (b := 0) (by omega) (by decide)).mp q; omega)), ← e]
  by_cases h : x - x / nI n * nI n < 0
  · rw [if_pos h, if_pos h]
  · rw [if_neg h, if_neg h]
/-- an int of the script, or 0 -/
theorem k113 {k : Nat} (hk : k < 2147483648) (hL : ∃ L : Nat, L ≤ 2048 ∧ M (0, 0, 1) 0 = nI L) : ∃ v, am_ev (d + 1) 113 [am_P (0, 0, 0), am_I (nI k)] M (am_Z w) = some (.inl (some (am_I v)), M, am_Z w) := by
  obtain ⟨L, h1, h2⟩ := hL
  rw [e113, h2]
  by_cases h : k < L
  · rw [if_pos (nI_lt h (by omega)), if_pos (by rw [nI_clamp (by omega), am_inT (by omega) h]; trivial)]
    exact ⟨_, rfl⟩
  · rw [if_neg (nI_nlt (by omega) hk)]
    exact ⟨_, rfl⟩
end Kso
